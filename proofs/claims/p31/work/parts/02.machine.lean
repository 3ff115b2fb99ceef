section
/-! ===== A MACHINE OF ITS OWN: abstract states, a step that computes, and that the bytecode's machine follows it ===== -/
/-- a cell: an array (kind, length, contents: what the list doesn't tell is 0), or an object (class number, fields); a reference in it is a number of its own -/
abbrev jm_c : Type := (Nat × Nat × (List Int32 ⊕ List Int64)) ⊕ (Nat × List Value)
/-- two rows of cells: what the class makes, what the reference makes -/
abbrev jm_h : Type := List jm_c × List jm_c
/-- kinds of arrays -/
def jm_ty (k : Nat) : FieldType := if k = 0 then .int else if k = 1 then .byte else if k = 2 then .boolean else .long
def jm_n1 : Nat := 65
/-- the place of a reference among all cells -/
def jm_fi (k : Nat) : Nat := if k < 1000 then k - 8 else 65 + (k - 1000)
/-- the address that a reference stands for: below 8 what lay there before, else the cells in the order of their making -/
def jm_ad (h0 : Nat) (ex : Nat → Nat) (k : Nat) : Nat := if k < 8 then ex k else h0 + jm_fi k
def jm_cv (h0 : Nat) (ex : Nat → Nat) (v : Value) : Value := match v with
  | .ref k => if k = 6 ∧ ex 7 = 0 then .null else .ref (jm_ad h0 ex k)
  | .int x => .int x
  | .long x => .long x
  | .null => .null
  | .float x => .float x
  | .double x => .double x
  | .retAddr x => .retAddr x
def jm_ce (h0 : Nat) (ex : Nat → Nat) (ka : Nat → ClassId) (c : jm_c) : va_E := match c with
  | .inl (t, n, .inl f) => .inl (ka t, n, .inl (fun j => f.getD j 0))
  | .inl (t, n, .inr f) => .inl (ka t, n, .inr (.inl (fun j => f.getD j 0)))
  | .inr (ci, fs) => .inr (ci, fs.map (jm_cv h0 ex))
def jm_al (G : jm_h) : List jm_c := G.1 ++ G.2
def jm_w (h0 : Nat) (ex : Nat → Nat) (ka : Nat → ClassId) (G : jm_h) : va_W := (jm_al G).mapIdx fun j c => (h0 + j, jm_ce h0 ex ka c)
def jm_len (G : jm_h) : Nat := G.1.length + G.2.length
/-- a cell by its reference; another one in its place; a new one -/
def jm_g (G : jm_h) (k : Nat) : Option jm_c := if k < 8 then none else if k < 1000 then G.1[k - 8]? else G.2[k - 1000]?
def jm_s (G : jm_h) (k : Nat) (c : jm_c) : jm_h := if k < 1000 then (G.1.set (k - 8) c, G.2) else (G.1, G.2.set (k - 1000) c)
def jm_okh (G : jm_h) : Prop := (G.2 = [] ∨ G.1.length = 65) ∧ G.1.length ≤ 65
def jm_new (sg : Nat) (G : jm_h) (c : jm_c) : Option (Nat × jm_h) :=
  if sg = 1 then (match G.2 with
    | [] => if G.1.length < 65 then some (8 + G.1.length, (G.1 ++ [c], [])) else none
    | _ :: _ => none)
  else if G.1.length = 65 then some (1000 + G.2.length, (G.1, G.2 ++ [c])) else none
theorem jm_w_at {h0 : Nat} {ex : Nat → Nat} {ka : Nat → ClassId} {G : jm_h} {j : Nat} {c : jm_c} (h : (jm_al G)[j]? = some c) : (jm_w h0 ex ka G)[j]? = some (h0 + j, jm_ce h0 ex ka c) := by
  simp [jm_w, List.getElem?_mapIdx, h]
theorem jm_w_inv {h0 : Nat} {ex : Nat → Nat} {ka : Nat → ClassId} {G : jm_h} {j : Nat} {q : Nat × va_E} (h : (jm_w h0 ex ka G)[j]? = some q) : ∃ c, (jm_al G)[j]? = some c ∧ q = (h0 + j, jm_ce h0 ex ka c) := by
  simp only [jm_w, List.getElem?_mapIdx, Option.map_eq_some_iff] at h
  obtain ⟨c, h1, h2⟩ := h
  exact ⟨c, h1, h2.symm⟩
theorem jm_D (h0 : Nat) (ex : Nat → Nat) (ka : Nat → ClassId) (G : jm_h) : va_D (fun q : Nat => h0 ≤ q) (jm_w h0 ex ka G) := by
  refine ⟨fun i j p q hi hj hpq => ?_, fun k q hk => ?_⟩
  · obtain ⟨c, -, rfl⟩ := jm_w_inv hi
    obtain ⟨d, -, rfl⟩ := jm_w_inv hj
    exact Nat.add_left_cancel hpq
  · obtain ⟨c, -, rfl⟩ := jm_w_inv hk
    exact Nat.le_add_right _ _
theorem jm_g_ge {G : jm_h} {k : Nat} {c : jm_c} (h : jm_g G k = some c) : 8 ≤ k := by
  unfold jm_g at h
  split at h
  · cases h
  · omega
theorem jm_g_ad {h0 : Nat} {ex : Nat → Nat} {G : jm_h} {k : Nat} {c : jm_c} (h : jm_g G k = some c) : jm_ad h0 ex k = h0 + jm_fi k := by
  have := jm_g_ge h
  unfold jm_ad
  rw [if_neg (by omega)]
theorem jm_g_at {G : jm_h} (hG : jm_okh G) {k : Nat} {c : jm_c} (h : jm_g G k = some c) : (jm_al G)[jm_fi k]? = some c := by
  unfold jm_g at h
  split at h
  · cases h
  · split at h
    · rename_i h1 h2
      have hl := (List.getElem?_eq_some_iff.mp h).1
      rw [jm_al, jm_fi, if_pos h2, List.getElem?_append_left hl, h]
    · rename_i h1 h2
      have hl := (List.getElem?_eq_some_iff.mp h).1
      rw [jm_al, jm_fi, if_neg h2]
      have h65 : G.1.length = 65 := by
        rcases hG.1 with e | e
        · rw [e] at hl; simp at hl
        · exact e
      rw [List.getElem?_append_right (by omega), h65, Nat.add_sub_cancel_left, h]
theorem jm_s_al {G : jm_h} (hG : jm_okh G) {k : Nat} {c0 : jm_c} (h : jm_g G k = some c0) (c : jm_c) : jm_al (jm_s G k c) = (jm_al G).set (jm_fi k) c := by
  unfold jm_g at h
  split at h
  · cases h
  · split at h
    · rename_i h1 h2
      have hl := (List.getElem?_eq_some_iff.mp h).1
      simp only [jm_al, jm_s, jm_fi, if_pos h2]
      rw [List.set_append_left _ _ hl]
    · rename_i h1 h2
      have hl := (List.getElem?_eq_some_iff.mp h).1
      have h65 : G.1.length = 65 := by
        rcases hG.1 with e | e
        · rw [e] at hl; simp at hl
        · exact e
      simp only [jm_al, jm_s, jm_fi, if_neg h2]
      rw [List.set_append_right _ _ (by omega), h65, Nat.add_sub_cancel_left]
theorem jm_s_ok {G : jm_h} (hG : jm_okh G) (k : Nat) (c : jm_c) : jm_okh (jm_s G k c) := by
  obtain ⟨h1, h2⟩ := hG
  unfold jm_s jm_okh
  split
  · simpa using ⟨h1, h2⟩
  · refine ⟨?_, h2⟩
    rcases h1 with e | e
    · left; simp [e]
    · right; exact e
theorem jm_s_len (G : jm_h) (k : Nat) (c : jm_c) : jm_len (jm_s G k c) = jm_len G := by
  unfold jm_s jm_len
  split <;> simp
theorem jm_w_set {h0 : Nat} {ex : Nat → Nat} {ka : Nat → ClassId} {G : jm_h} (hG : jm_okh G) {k : Nat} {c0 : jm_c} (h : jm_g G k = some c0) (c : jm_c) : (jm_w h0 ex ka G).set (jm_fi k) (h0 + jm_fi k, jm_ce h0 ex ka c) = jm_w h0 ex ka (jm_s G k c) := by
  unfold jm_w
  rw [jm_s_al hG h]
  apply List.ext_getElem?
  intro i
  simp only [List.getElem?_set, List.getElem?_mapIdx, List.length_mapIdx]
  split
  · rename_i e
    subst e
    split <;> simp
  · rfl
theorem jm_al_len (G : jm_h) : (jm_al G).length = jm_len G := by simp [jm_al, jm_len]
theorem jm_new_al {sg : Nat} {G G1 : jm_h} {c : jm_c} {k : Nat} (hG : jm_okh G) (h : jm_new sg G c = some (k, G1)) : jm_al G1 = jm_al G ++ [c] ∧ jm_okh G1 ∧ 8 ≤ k ∧ jm_fi k = jm_len G := by
  obtain ⟨h1, h2⟩ := hG
  unfold jm_new at h
  split at h
  · split at h
    · rename_i e
      split at h
      · rename_i hl
        cases h
        refine ⟨by simp [jm_al, e], ⟨Or.inl rfl, by simp; omega⟩, by omega, ?_⟩
        unfold jm_fi jm_len
        rw [if_pos (by omega), e]
        simp
      · cases h
    · cases h
  · split at h
    · rename_i hl
      cases h
      refine ⟨by simp [jm_al], ⟨Or.inr hl, h2⟩, by omega, ?_⟩
      unfold jm_fi jm_len
      rw [if_neg (by omega)]
      omega
    · cases h
theorem jm_w_new {h0 : Nat} {ex : Nat → Nat} {ka : Nat → ClassId} {G G1 : jm_h} {c : jm_c} (h : jm_al G1 = jm_al G ++ [c]) : jm_w h0 ex ka G1 = jm_w h0 ex ka G ++ [(h0 + jm_len G, jm_ce h0 ex ka c)] := by
  unfold jm_w
  rw [h, List.mapIdx_append]
  simp [jm_al_len]
theorem jm_new_len {sg : Nat} {G G1 : jm_h} {c : jm_c} {k : Nat} (hG : jm_okh G) (h : jm_new sg G c = some (k, G1)) : jm_len G1 = jm_len G + 1 := by
  have h1 := (jm_new_al hG h).1
  have h2 := congrArg List.length h1
  rw [jm_al_len] at h2
  simp [jm_al_len] at h2
  exact h2
/-- the heap holds the cells -/
def jm_R (D : va_G) (h0 : Nat) (ex : Nat → Nat) (ka : Nat → ClassId) (G : jm_h) (H : Heap) : Prop := jm_okh G ∧ va_P D vwCl (jm_w h0 ex ka G) H
theorem jm_R_low {D : va_G} {h0 : Nat} {ex : Nat → Nat} {ka : Nat → ClassId} {G : jm_h} {H : Heap} (h : jm_R D h0 ex ka G H) (hh : h0 ≤ H.size) : h0 + jm_len G ≤ H.size := by
  rcases Nat.eq_zero_or_pos (jm_len G) with e | e
  · omega
  · have hl : jm_len G - 1 < (jm_al G).length := by rw [jm_al_len]; omega
    have h1 := h.2 (jm_len G - 1) _ (jm_w_at (List.getElem?_eq_getElem hl))
    have := h1.lt
    simp only at this
    omega
/-- local variables: what a row of them says -/
def jm_lv (h0 : Nat) (ex : Nat → Nat) : Nat → List (Option Value) → List (Nat × Value)
  | _, [] => []
  | i, none :: r => jm_lv h0 ex (i + 1) r
  | i, some v :: r => (i, jm_cv h0 ex v) :: jm_lv h0 ex (i + 1) r
theorem jm_lv_mem {h0 : Nat} {ex : Nat → Nat} {q : Nat × Value} : ∀ {L : List (Option Value)} {i : Nat}, q ∈ jm_lv h0 ex i L ↔ ∃ j v, L[j]? = some (some v) ∧ q = (i + j, jm_cv h0 ex v)
  | [], i => by simp [jm_lv]
  | none :: r, i => by
    rw [jm_lv, jm_lv_mem]
    constructor
    · rintro ⟨j, v, h1, h2⟩
      exact ⟨j + 1, v, by simpa using h1, by rw [h2]; congr 1; omega⟩
    · rintro ⟨j, v, h1, h2⟩
      cases j with
      | zero => simp at h1
      | succ j => exact ⟨j, v, by simpa using h1, by rw [h2]; congr 1; omega⟩
  | some w :: r, i => by
    rw [jm_lv, List.mem_cons, jm_lv_mem]
    constructor
    · rintro (h | ⟨j, v, h1, h2⟩)
      · exact ⟨0, w, by simp, by simpa using h⟩
      · exact ⟨j + 1, v, by simpa using h1, by rw [h2]; congr 1; omega⟩
    · rintro ⟨j, v, h1, h2⟩
      cases j with
      | zero =>
        left
        simp at h1
        rw [h2, h1]; rfl
      | succ j => exact Or.inr ⟨j, v, by simpa using h1, by rw [h2]; congr 1; omega⟩
def jm_ld (L : List (Option Value)) (i : Nat) : Option Value := (L[i]?).join
/-- what stood ahead of a place that is written, if it was two words wide, is gone -/
def jm_cl (L : List (Option Value)) (i : Nat) : List (Option Value) := match i with
  | 0 => L
  | j + 1 => match jm_ld L j with
    | some v => if v.category = 2 then L.set j none else L
    | none => L
def jm_st1 (L : List (Option Value)) (i : Nat) (v : Value) : List (Option Value) := (jm_cl L i).set i (some v)
def jm_st2 (L : List (Option Value)) (i : Nat) (v : Value) : List (Option Value) := ((jm_cl L i).set i (some v)).set (i + 1) none
def jm_L (h0 : Nat) (ex : Nat → Nat) (ls : Array Slot) (n : Nat) (L : List (Option Value)) : Prop := lv_has ls n (jm_lv h0 ex 0 L)
theorem jm_L_at {h0 : Nat} {ex : Nat → Nat} {ls : Array Slot} {n : Nat} {L : List (Option Value)} {i : Nat} {v : Value} (h : jm_L h0 ex ls n L) (hi : jm_ld L i = some v) : ls[i]? = some (.val (jm_cv h0 ex v)) := by
  have h1 : L[i]? = some (some v) := by
    unfold jm_ld at hi
    cases hq : L[i]? with
    | none => rw [hq] at hi; cases hi
    | some o => rw [hq] at hi; simp at hi; rw [hi]
  have h2 : ((i, jm_cv h0 ex v) : Nat × Value) ∈ jm_lv h0 ex 0 L := jm_lv_mem.mpr ⟨i, v, h1, by rw [Nat.zero_add]⟩
  exact h.2.2 _ h2
theorem jm_cv_cat (h0 : Nat) (ex : Nat → Nat) (v : Value) : (jm_cv h0 ex v).category = v.category := by
  cases v with
  | ref k =>
    unfold jm_cv
    dsimp only
    split <;> rfl
  | _ => rfl
theorem jm_cvr {h0 : Nat} {ex : Nat → Nat} {k : Nat} (h : ¬ k = 6) : jm_cv h0 ex (.ref k) = .ref (jm_ad h0 ex k) := by
  unfold jm_cv
  dsimp only
  rw [if_neg (fun q => h q.1)]
theorem jm_cl_mem {L : List (Option Value)} {i j : Nat} {v : Value} (h : (jm_cl L i)[j]? = some (some v)) : L[j]? = some (some v) ∧ ¬ (j + 1 = i ∧ v.category = 2) := by
  unfold jm_cl at h
  split at h
  · exact ⟨h, fun q => by omega⟩
  · rename_i k
    split at h
    · rename_i w hw
      have hL : L[k]? = some (some w) := by
        unfold jm_ld at hw
        cases hq : L[k]? with
        | none => rw [hq] at hw; cases hw
        | some o => rw [hq] at hw; simp at hw; rw [hw]
      split at h
      · rw [List.getElem?_set] at h
        split at h
        · split at h <;> simp at h
        · exact ⟨h, fun q => by omega⟩
      · rename_i hc
        refine ⟨h, fun q => ?_⟩
        have : j = k := by omega
        subst this
        rw [hL] at h
        cases h
        exact hc q.2
    · rename_i hw
      refine ⟨h, fun q => ?_⟩
      have : j = k := by omega
      subst this
      simp [jm_ld, h] at hw
theorem jm_L_st1 {h0 : Nat} {ex : Nat → Nat} {ls : Array Slot} {n i : Nat} {L : List (Option Value)} {v : Value} (h : lv_has ls n ((i, jm_cv h0 ex v) :: (jm_lv h0 ex 0 L).filter (fun q => !(q.1 == i) && !(q.1 + 1 == i && q.2.category == 2)))) : jm_L h0 ex ls n (jm_st1 L i v) := by
  refine ⟨h.1, h.2.1, fun q hq => h.2.2 q ?_⟩
  obtain ⟨j, w, h1, rfl⟩ := jm_lv_mem.mp hq
  rw [jm_st1, List.getElem?_set] at h1
  split at h1
  · rename_i e
    subst e
    split at h1
    · cases h1
      rw [Nat.zero_add]
      exact List.mem_cons_self
    · cases h1
  · rename_i hne
    obtain ⟨h2, h3⟩ := jm_cl_mem h1
    refine List.mem_cons_of_mem _ (List.mem_filter.mpr ⟨jm_lv_mem.mpr ⟨j, w, h2, rfl⟩, ?_⟩)
    simp only [Nat.zero_add, jm_cv_cat]
    simp
    exact ⟨fun e => hne e.symm, (Decidable.not_and_iff_or_not).mp h3⟩
theorem jm_L_st2 {h0 : Nat} {ex : Nat → Nat} {ls : Array Slot} {n i : Nat} {L : List (Option Value)} {v : Value} (h : lv_has ls n ((i, jm_cv h0 ex v) :: (jm_lv h0 ex 0 L).filter (fun q => !(q.1 == i) && (!(q.1 == i + 1) && !(q.1 + 1 == i && q.2.category == 2))))) : jm_L h0 ex ls n (jm_st2 L i v) := by
  refine ⟨h.1, h.2.1, fun q hq => h.2.2 q ?_⟩
  obtain ⟨j, w, h1, rfl⟩ := jm_lv_mem.mp hq
  rw [jm_st2, List.getElem?_set] at h1
  split at h1
  · split at h1 <;> simp at h1
  · rename_i hne1
    rw [List.getElem?_set] at h1
    split at h1
    · rename_i e
      subst e
      split at h1
      · cases h1
        rw [Nat.zero_add]
        exact List.mem_cons_self
      · cases h1
    · rename_i hne
      obtain ⟨h2, h3⟩ := jm_cl_mem h1
      refine List.mem_cons_of_mem _ (List.mem_filter.mpr ⟨jm_lv_mem.mpr ⟨j, w, h2, rfl⟩, ?_⟩)
      simp only [Nat.zero_add, jm_cv_cat]
      simp
      exact ⟨fun e => hne e.symm, fun e => hne1 e.symm, (Decidable.not_and_iff_or_not).mp h3⟩
end
section
/-! ===== what stands fixed in a method's body, and the judgement over abstract states ===== -/
abbrev jm_I : Type := Instr × Nat × Nat × Nat × Nat
/-- a method: its name, bytes, locals, return type, its instructions (sixteen places a row), the kind of cells that it makes, how many arguments, its kind (0 static, 1 virtual, 2 <init>), its receiver's class -/
abbrev jm_M : Type := MethodName × ByteArray × Nat × Option FieldType × List (List (Option jm_I)) × Nat × Nat × Nat × Nat
def jm_y (M : jm_M) : MethodName := M.1
def jm_b (M : jm_M) : ByteArray := M.2.1
def jm_mx (M : jm_M) : Nat := M.2.2.1
def jm_rt (M : jm_M) : Option FieldType := M.2.2.2.1
def jm_tb (M : jm_M) : List (List (Option jm_I)) := M.2.2.2.2.1
def jm_sg (M : jm_M) : Nat := M.2.2.2.2.2.1
def jm_na (M : jm_M) : Nat := M.2.2.2.2.2.2.1
def jm_kd (M : jm_M) : Nat := M.2.2.2.2.2.2.2.1
def jm_rc (M : jm_M) : Nat := M.2.2.2.2.2.2.2.2
def jm_in (M : jm_M) (pc : Nat) : Option jm_I := (((jm_tb M)[pc / 16]?).bind fun r => (r[pc % 16]?).join)
abbrev jm_St : Type := Nat × List (Option Value) × List Value × jm_h × Nat × Nat
def jm_tys (ka : Nat → ClassId) : List (ClassId × FieldType) := [(ka 0, .int), (ka 1, .byte), (ka 2, .boolean), (ka 3, .long)]
def jm_x1 : List Int32 := [0, -9, 0, 0, -9, 0]
def jm_x2 : List Int32 := [9, 9, 100, 99, 9, 100]
def jm_x3 : List Int32 := [260, 383, 383, 407, 279, 300]
def jm_tx : String := "fruit buyer wind ripens falls worth bounces found fine keeps seed if then else ripe high hour blows across shaken propped lay left "
def jm_wb : List Int32 := [102, 114, 117, 105, 116, 32, 98, 117, 121, 101, 114, 32, 119, 105, 110, 100, 32, 114, 105, 112, 101, 110, 115, 32, 102, 97, 108, 108, 115, 32, 119, 111, 114, 116, 104, 32, 98, 111, 117, 110, 99, 101, 115, 32, 102, 111, 117, 110, 100, 32, 102, 105, 110, 101, 32, 107, 101, 101, 112, 115, 32, 115, 101, 101, 100, 32, 105, 102, 32, 116, 104, 101, 110, 32, 101, 108, 115, 101, 32, 114, 105, 112, 101, 32, 104, 105, 103, 104, 32, 104, 111, 117, 114, 32, 98, 108, 111, 119, 115, 32, 97, 99, 114, 111, 115, 115, 32, 115, 104, 97, 107, 101, 110, 32, 112, 114, 111, 112, 112, 101, 100, 32, 108, 97, 121, 32, 108, 101, 102, 116, 32]
/-- arrays that lay there before -/
def jm_ea (Ls : Nat) (xs : Nat → Int32) (k : Nat) : Option (Nat × Nat × (Nat → Int32)) :=
  if k = 0 then some (0, Ls, xs) else if k = 1 then some (0, 6, fun j => jm_x1.getD j 0) else if k = 2 then some (0, 6, fun j => jm_x2.getD j 0)
  else if k = 3 then some (0, 6, fun j => jm_x3.getD j 0) else if k = 5 then some (1, 131, fun j => jm_wb.getD j 0) else none
/-- words on private members of a nest mate -/
def jm_isN (w : Cond) : Bool := match w with
  | .methodLinkNest _ _ _ _ => true
  | .fieldLinkNest _ _ _ _ _ _ => true
  | _ => false
/-- what lay there before, of a state: the script, three static arrays, a text; a static that holds a reference or null -/
def jm_X (h0 : Nat) (ex : Nat → Nat) (Ls : Nat) (xs : Nat → Int32) (U : State) : Prop :=
  (va_X (ex 0) Ls xs U U.heap ∧ ex 0 < U.heap.size ∧ ¬ h0 ≤ ex 0) ∧
  (va_Z "FallMarket" "LEAST" "[I" (.ref (ex 1)) (fun q => h0 ≤ q) U U.heap ∧ va_T .int (ex 1) 6 (fun j => .int (jm_x1.getD j 0)) (fun q => h0 ≤ q) U U.heap) ∧
  (va_Z "FallMarket" "MOST" "[I" (.ref (ex 2)) (fun q => h0 ≤ q) U U.heap ∧ va_T .int (ex 2) 6 (fun j => .int (jm_x2.getD j 0)) (fun q => h0 ≤ q) U U.heap) ∧
  (va_Z "FallMarket" "TOLD_VARS" "[I" (.ref (ex 3)) (fun q => h0 ≤ q) U U.heap ∧ va_T .int (ex 3) 6 (fun j => .int (jm_x3.getD j 0)) (fun q => h0 ≤ q) U U.heap) ∧
  (va_Z "java/lang/String" "COMPACT_STRINGS" "Z" (.int 1) (fun q => h0 ≤ q) U U.heap) ∧
  (va_O "java/lang/String" (ex 4) (fun q => h0 ≤ q) U U.heap ∧ va_OF "java/lang/String" "coder" "B" (.int 0) (ex 4) (fun q => h0 ≤ q) U U.heap ∧ va_OF "java/lang/String" "value" "[B" (.ref (ex 5)) (ex 4) (fun q => h0 ≤ q) U U.heap ∧ va_T .byte (ex 5) 131 (fun j => .int (jm_wb.getD j 0)) (fun q => h0 ≤ q) U U.heap) ∧
  vk_R "FallMarket$Tokens" 25 jm_tx (ex 4) U ∧
  va_Z "jdk/internal/util/Preconditions" "SIOOBE_FORMATTER" "Ljava/util/function/BiFunction;" (if ex 7 = 0 then .null else .ref (ex 6)) (fun q => h0 ≤ q) U U.heap ∧
  ∀ w ∈ lw_tbl, jm_isN w = true → va_Nw w U
theorem jm_N_warm {s U : State} (hW : s.WarmedH U.vm) {w : Cond} (hn : jm_isN w = true) (h : va_Nw w s) : va_Nw w U := by
  unfold jm_isN at hn
  split at hn
  · exact va_Nw.warmM hW h
  · exact va_Nw.warmF hW h
  · cases hn
theorem jm_N_tab {w : Cond} (hn : jm_isN w = true) : w.onTables = true := by
  unfold jm_isN at hn
  split at hn
  · rfl
  · rfl
  · cases hn
theorem jm_X_to {h0 : Nat} {ex : Nat → Nat} {Ls : Nat} {xs : Nat → Int32} {s U : State} {H : Heap} {locs : List Loc} (h : jm_X h0 ex Ls xs s) (hS : va_S (fun q => h0 ≤ q) s.heap H locs) (hU : U.heap = H) (hW : s.WarmedH U.vm) : jm_X h0 ex Ls xs U := by
  obtain ⟨⟨a1, a2, a3⟩, ⟨b1, b2⟩, ⟨c1, c2⟩, ⟨d1, d2⟩, e1, ⟨f1, f2, f3, f4⟩, g1, i1, j1⟩ := h
  have hk := hS.2.1
  have hv := hW.alike
  subst hU
  exact ⟨⟨(a1.kept (hk _ a2 a3)).moved hv, Nat.lt_of_lt_of_le a2 hS.1, a3⟩, ⟨(b1.kept hk).moved hv, (b2.kept hk).moved hv⟩, ⟨(c1.kept hk).moved hv, (c2.kept hk).moved hv⟩, ⟨(d1.kept hk).moved hv, (d2.kept hk).moved hv⟩, (e1.kept hk).moved hv, ⟨(f1.kept hk).moved hv, (f2.kept hk).moved hv, (f3.kept hk).moved hv, (f4.kept hk).moved hv⟩, g1.warm hW, (i1.kept hk).moved hv, fun w hw hn => jm_N_warm hW hn (j1 w hw hn)⟩
theorem jm_X_call {h0 : Nat} {ex : Nat → Nat} {Ls : Nat} {xs : Nat → Int32} {U : State} {g : JFrame} {mk : MethodId} {a : Array Value} (h : jm_X h0 ex Ls xs U) : jm_X h0 ex Ls xs (U.calling g mk a) := by
  obtain ⟨⟨a1, a2, a3⟩, ⟨b1, b2⟩, ⟨c1, c2⟩, ⟨d1, d2⟩, e1, ⟨f1, f2, f3, f4⟩, g1, i1, j1⟩ := h
  have hv : U.vm.Alike (U.calling g mk a).vm := Vm.Alike.refl U.vm
  exact ⟨⟨a1.moved hv, a2, a3⟩, ⟨b1.moved hv, b2.moved hv⟩, ⟨c1.moved hv, c2.moved hv⟩, ⟨d1.moved hv, d2.moved hv⟩, e1.moved hv, ⟨f1.moved hv, f2.moved hv, f3.moved hv, f4.moved hv⟩, g1.same rfl, i1.moved hv, fun w hw hn => va_Nw.same (u := U) (jm_N_tab hn) rfl (j1 w hw hn)⟩
/-- the body of a method: what holds at its entry and stays -/
def jm_C (p : Program) (s : State) (m : MethodId) (args : Array Value) (meth : Method) (c : Code) (D : va_G) (h0 : Nat) (ex : Nat → Nat) (ka : Nat → ClassId) (Ls : Nat) (xs : Nat → Int32) (M : jm_M) (n0 : Nat) : Prop :=
  p.tables.exec = Jvm.exec ∧ c.code = jm_b M ∧ c.maxLocals = jm_mx M ∧ s.vm.findClass (jm_y M).cls = some m.cls ∧ (∀ w ∈ jm_tbl, w.before args s = true) ∧ meth.sig.returnType = jm_rt M ∧ meth.locks = false ∧ meth.name = (jm_y M).name ∧ va_K D vwCl (jm_tys ka) s ∧ s.heap.size = h0 + n0 ∧ jm_X h0 ex Ls xs s
def jm_W (p : Program) (l : Launch) (e : Env) (R : Room) (s : State) (m : MethodId) (args : Array Value) (below : List Frame) (meth : Method) (c : Code) (D : va_G) (h0 : Nat) (ex : Nat → Nat) (ka : Nat → ClassId) (M : jm_M) (n0 : Nat) (Q : State → Prop) (st : jm_St) : Prop :=
  jm_len st.2.2.2.1 = n0 + st.2.2.2.2.1 → ∀ (H : Heap) (locs : List Loc) (ls : Array Slot), jm_R D h0 ex ka st.2.2.2.1 H → va_S (fun q => h0 ≤ q) s.heap H locs → jm_L h0 ex ls (jm_mx M) st.2.1 →
    W p l e R s m args below meth c H locs st.2.2.2.2.1 st.2.2.2.2.2 Q (F0 m st.1 ls (st.2.2.1.map (jm_cv h0 ex)))
end
section
/-! ===== constants, local variables, the stack, arithmetic, branches: the step, and that it is followed ===== -/
def jm_a1 (ins : Instr) (n pc : Nat) (L : List (Option Value)) (S : List Value) (G : jm_h) (q : Nat × Nat) : Option jm_St := match ins with
  | .iconst k => if n = 1 then some (pc + 1, L, .int (Int32.ofInt k) :: S, G, q) else none
  | .bipush k => if n = 2 then some (pc + 2, L, .int (Int8.ofInt k).toInt32 :: S, G, q) else none
  | .sipush k => if n = 3 then some (pc + 3, L, .int (Int16.ofInt k).toInt32 :: S, G, q) else none
  | .lconst k => if n = 1 then some (pc + 1, L, .long (Int64.ofNat (k : Nat)) :: S, G, q) else none
  | .iload_n k => if n = 1 then (match jm_ld L (k : Nat) with
    | some (.int x) => some (pc + 1, L, .int x :: S, G, q)
    | _ => none) else none
  | .iload k => if n = 2 then (match jm_ld L k with
    | some (.int x) => some (pc + 2, L, .int x :: S, G, q)
    | _ => none) else none
  | .lload_n k => if n = 1 then (match jm_ld L (k : Nat) with
    | some (.long x) => some (pc + 1, L, .long x :: S, G, q)
    | _ => none) else none
  | .lload k => if n = 2 then (match jm_ld L k with
    | some (.long x) => some (pc + 2, L, .long x :: S, G, q)
    | _ => none) else none
  | .aload_n k => if n = 1 then (match jm_ld L (k : Nat) with
    | some (.ref x) => if x = 6 then none else some (pc + 1, L, .ref x :: S, G, q)
    | _ => none) else none
  | .aload k => if n = 2 then (match jm_ld L k with
    | some (.ref x) => if x = 6 then none else some (pc + 2, L, .ref x :: S, G, q)
    | _ => none) else none
  | _ => none
def jm_a2 (mx : Nat) (ins : Instr) (n pc : Nat) (L : List (Option Value)) (S : List Value) (G : jm_h) (q : Nat × Nat) : Option jm_St := match ins with
  | .istore_n k => if n = 1 ∧ (k : Nat) < mx then (match S with
    | .int x :: r => some (pc + 1, jm_st1 L (k : Nat) (.int x), r, G, q)
    | _ => none) else none
  | .istore k => if n = 2 ∧ k < mx then (match S with
    | .int x :: r => some (pc + 2, jm_st1 L k (.int x), r, G, q)
    | _ => none) else none
  | .lstore_n k => if n = 1 ∧ (k : Nat) + 1 < mx then (match S with
    | .long x :: r => some (pc + 1, jm_st2 L (k : Nat) (.long x), r, G, q)
    | _ => none) else none
  | .lstore k => if n = 2 ∧ k + 1 < mx then (match S with
    | .long x :: r => some (pc + 2, jm_st2 L k (.long x), r, G, q)
    | _ => none) else none
  | .astore_n k => if n = 1 ∧ (k : Nat) < mx then (match S with
    | .ref x :: r => if x = 6 then none else some (pc + 1, jm_st1 L (k : Nat) (.ref x), r, G, q)
    | _ => none) else none
  | .astore k => if n = 2 ∧ k < mx then (match S with
    | .ref x :: r => if x = 6 then none else some (pc + 2, jm_st1 L k (.ref x), r, G, q)
    | _ => none) else none
  | .iinc k d => if n = 3 ∧ k < mx then (match jm_ld L k with
    | some (.int x) => some (pc + 3, jm_st1 L k (.int (x + Int32.ofInt d)), S, G, q)
    | _ => none) else none
  | .dup => if n = 1 then (match S with
    | .int x :: r => some (pc + 1, L, .int x :: .int x :: r, G, q)
    | .ref x :: r => some (pc + 1, L, .ref x :: .ref x :: r, G, q)
    | _ => none) else none
  | .pop => if n = 1 then (match S with
    | .int x :: r => some (pc + 1, L, r, G, q)
    | .ref x :: r => some (pc + 1, L, r, G, q)
    | _ => none) else none
  | .dup2 => if n = 1 then (match S with
    | .int x :: .ref y :: r => some (pc + 1, L, .int x :: .ref y :: .int x :: .ref y :: r, G, q)
    | _ => none) else none
  | _ => none
def jm_b1 (ins : Instr) (n pc : Nat) (L : List (Option Value)) (S : List Value) (G : jm_h) (q : Nat × Nat) : Option jm_St := if n = 1 then (match ins with
  | .iadd => (match S with
    | .int y :: .int x :: r => some (pc + 1, L, .int (x + y) :: r, G, q)
    | _ => none)
  | .isub => (match S with
    | .int y :: .int x :: r => some (pc + 1, L, .int (x - y) :: r, G, q)
    | _ => none)
  | .imul => (match S with
    | .int y :: .int x :: r => some (pc + 1, L, .int (x * y) :: r, G, q)
    | _ => none)
  | .iand => (match S with
    | .int y :: .int x :: r => some (pc + 1, L, .int (x &&& y) :: r, G, q)
    | _ => none)
  | .ior => (match S with
    | .int y :: .int x :: r => some (pc + 1, L, .int (x ||| y) :: r, G, q)
    | _ => none)
  | .ixor => (match S with
    | .int y :: .int x :: r => some (pc + 1, L, .int (x ^^^ y) :: r, G, q)
    | _ => none)
  | .ishl => (match S with
    | .int y :: .int x :: r => some (pc + 1, L, .int (x <<< (y &&& 31)) :: r, G, q)
    | _ => none)
  | .ishr => (match S with
    | .int y :: .int x :: r => some (pc + 1, L, .int (x >>> (y &&& 31)) :: r, G, q)
    | _ => none)
  | .iushr => (match S with
    | .int y :: .int x :: r => some (pc + 1, L, .int ((x.toUInt32 >>> (y.toUInt32 &&& Int32.toUInt32 31)).toInt32) :: r, G, q)
    | _ => none)
  | .idiv => (match S with
    | .int y :: .int x :: r => if y = 0 then none else some (pc + 1, L, .int (x / y) :: r, G, q)
    | _ => none)
  | .irem => (match S with
    | .int y :: .int x :: r => if y = 0 then none else some (pc + 1, L, .int (x - x / y * y) :: r, G, q)
    | _ => none)
  | .ineg => (match S with
    | .int x :: r => some (pc + 1, L, .int (0 - x) :: r, G, q)
    | _ => none)
  | _ => none) else none
def jm_b2 (ins : Instr) (n pc : Nat) (L : List (Option Value)) (S : List Value) (G : jm_h) (q : Nat × Nat) : Option jm_St := if n = 1 then (match ins with
  | .ladd => (match S with
    | .long y :: .long x :: r => some (pc + 1, L, .long (x + y) :: r, G, q)
    | _ => none)
  | .lsub => (match S with
    | .long y :: .long x :: r => some (pc + 1, L, .long (x - y) :: r, G, q)
    | _ => none)
  | .lmul => (match S with
    | .long y :: .long x :: r => some (pc + 1, L, .long (x * y) :: r, G, q)
    | _ => none)
  | .ldiv => (match S with
    | .long y :: .long x :: r => if y = 0 then none else some (pc + 1, L, .long (x / y) :: r, G, q)
    | _ => none)
  | .lrem => (match S with
    | .long y :: .long x :: r => if y = 0 then none else some (pc + 1, L, .long (x - x / y * y) :: r, G, q)
    | _ => none)
  | .lcmp => (match S with
    | .long y :: .long x :: r => some (pc + 1, L, .int (lg_cmp x y) :: r, G, q)
    | _ => none)
  | .i2l => (match S with
    | .int x :: r => some (pc + 1, L, .long x.toInt64 :: r, G, q)
    | _ => none)
  | .l2i => (match S with
    | .long x :: r => some (pc + 1, L, .int x.toInt32 :: r, G, q)
    | _ => none)
  | .i2b => (match S with
    | .int x :: r => some (pc + 1, L, .int x.toInt8.toInt32 :: r, G, q)
    | _ => none)
  | .i2c => (match S with
    | .int x :: r => some (pc + 1, L, .int (x.toUInt32 % 65536).toInt32 :: r, G, q)
    | _ => none)
  | _ => none) else none
def jm_tg (pc : Nat) (off : Int) : Option Nat := if 0 ≤ (pc : Int) + off then some ((pc : Int) + off).toNat else none
theorem jm_tg_ok {pc t : Nat} {off : Int} (h : jm_tg pc off = some t) : (pc : Int) + off = (t : Int) := by
  unfold jm_tg at h
  split at h
  · cases h; omega
  · cases h
def jm_c1 (ins : Instr) (n pc : Nat) (L : List (Option Value)) (S : List Value) (G : jm_h) (q : Nat × Nat) : Option jm_St := match ins with
  | .ifCond k off => if n = 3 then (match S, jm_tg pc off with
    | .int x :: r, some t => (match k with
      | .eq => some (if x = 0 then t else pc + 3, L, r, G, q)
      | .ne => some (if x = 0 then pc + 3 else t, L, r, G, q)
      | .lt => some (if x < 0 then t else pc + 3, L, r, G, q)
      | .ge => some (if 0 ≤ x then t else pc + 3, L, r, G, q)
      | .gt => some (if 0 < x then t else pc + 3, L, r, G, q)
      | .le => some (if x ≤ 0 then t else pc + 3, L, r, G, q))
    | _, _ => none) else none
  | .if_icmp k off => if n = 3 then (match S, jm_tg pc off with
    | .int y :: .int x :: r, some t => (match k with
      | .eq => some (if x = y then t else pc + 3, L, r, G, q)
      | .ne => some (if x = y then pc + 3 else t, L, r, G, q)
      | .lt => some (if x < y then t else pc + 3, L, r, G, q)
      | .ge => some (if y ≤ x then t else pc + 3, L, r, G, q)
      | .gt => some (if y < x then t else pc + 3, L, r, G, q)
      | .le => some (if x ≤ y then t else pc + 3, L, r, G, q))
    | _, _ => none) else none
  | .goto off => if n = 3 then (match jm_tg pc off with
    | some t => some (t, L, S, G, q)
    | none => none) else none
  | .tableswitch dflt lo hi offs => (match S with
    | .int x :: r => if x.toInt < lo ∨ hi < x.toInt then (match jm_tg pc dflt with
        | some t => some (t, L, r, G, q)
        | none => none)
      else (match offs[(x.toInt - lo).toNat]? with
        | some off => (match jm_tg pc off with
          | some t => some (t, L, r, G, q)
          | none => none)
        | none => none)
    | _ => none)
  | _ => none
theorem jm_ld_at {L : List (Option Value)} {i : Nat} {v : Value} (hi : jm_ld L i = some v) : L[i]? = some (some v) := by
  unfold jm_ld at hi
  cases hq : L[i]? with
  | none => rw [hq] at hi; cases hi
  | some o => rw [hq] at hi; simp at hi; rw [hi]
section JM4
variable {p : Program} {l : Launch} {e : Env} {R : Room} {s : State} {m : MethodId} {args : Array Value} {below : List Frame} {meth : Method} {c : Code} {D : va_G} {h0 : Nat} {ex : Nat → Nat} {ka : Nat → ClassId} {Ls : Nat} {xs : Nat → Int32} {M : jm_M} {n0 : Nat} {Q : State → Prop} {ins : Instr} {n pc : Nat} {L : List (Option Value)} {S : List Value} {G : jm_h} {cn sn : Nat} {st : jm_St}
set_option maxHeartbeats 4000000 in
theorem jm_a1_ok (C0 : jm_C p s m args meth c D h0 ex ka Ls xs M n0) (hd : decode (jm_b M) pc = .ok (ins, n)) (h : jm_a1 ins n pc L S G (cn, sn) = some st) (k : jm_W p l e R s m args below meth c D h0 ex ka M n0 Q st) : jm_W p l e R s m args below meth c D h0 ex ka M n0 Q (pc, L, S, G, cn, sn) := by
  obtain ⟨hx, hb, -⟩ := C0
  intro hlen H locs ls hR hS hl
  unfold jm_a1 at h
  split at h
  · split at h
    · rename_i hn
      subst hn
      cases h
      exact lv_iconst hx hb hd rfl (k hlen H locs ls hR hS hl)
    · cases h
  · split at h
    · rename_i hn
      subst hn
      cases h
      exact lv_bipush hx hb hd rfl (k hlen H locs ls hR hS hl)
    · cases h
  · split at h
    · rename_i hn
      subst hn
      cases h
      exact lv_sipush hx hb hd rfl (k hlen H locs ls hR hS hl)
    · cases h
  · split at h
    · rename_i hn
      subst hn
      cases h
      exact lv_lconst hx hb hd rfl (k hlen H locs ls hR hS hl)
    · cases h
  · split at h
    · rename_i hn
      subst hn
      split at h
      · rename_i x hv
        cases h
        exact lv_iload_n hx hb hd rfl (jm_L_at hl hv) (k hlen H locs ls hR hS hl)
      · cases h
    · cases h
  · split at h
    · rename_i hn
      subst hn
      split at h
      · rename_i x hv
        cases h
        exact lv_iload hx hb hd (jm_L_at hl hv) (k hlen H locs ls hR hS hl)
      · cases h
    · cases h
  · split at h
    · rename_i hn
      subst hn
      split at h
      · rename_i x hv
        cases h
        exact lv_lload_n hx hb hd rfl (jm_L_at hl hv) (k hlen H locs ls hR hS hl)
      · cases h
    · cases h
  · split at h
    · rename_i hn
      subst hn
      split at h
      · rename_i x hv
        cases h
        exact lv_lload hx hb hd (jm_L_at hl hv) (k hlen H locs ls hR hS hl)
      · cases h
    · cases h
  · split at h
    · rename_i hn
      subst hn
      split at h
      · rename_i x hv
        split at h
        · cases h
        · rename_i h6
          cases h
          exact lv_aload_n hx hb hd rfl ((jm_L_at hl hv).trans (by rw [jm_cvr h6])) (W.eq (by simp only [List.map_cons, jm_cvr h6]) (k hlen H locs ls hR hS hl))
      · cases h
    · cases h
  · split at h
    · rename_i hn
      subst hn
      split at h
      · rename_i x hv
        split at h
        · cases h
        · rename_i h6
          cases h
          exact lv_aload hx hb hd ((jm_L_at hl hv).trans (by rw [jm_cvr h6])) (W.eq (by simp only [List.map_cons, jm_cvr h6]) (k hlen H locs ls hR hS hl))
      · cases h
    · cases h
  · cases h
set_option maxHeartbeats 4000000 in
theorem jm_a2_ok (C0 : jm_C p s m args meth c D h0 ex ka Ls xs M n0) (hd : decode (jm_b M) pc = .ok (ins, n)) (h : jm_a2 (jm_mx M) ins n pc L S G (cn, sn) = some st) (k : jm_W p l e R s m args below meth c D h0 ex ka M n0 Q st) : jm_W p l e R s m args below meth c D h0 ex ka M n0 Q (pc, L, S, G, cn, sn) := by
  obtain ⟨hx, hb, -⟩ := C0
  intro hlen H locs ls hR hS hl
  unfold jm_a2 at h
  split at h
  · split at h
    · rename_i hn
      obtain ⟨hn, hm⟩ := hn
      subst hn
      split at h
      · cases h
        exact lv_istore_n hx hb hd rfl hl hm rfl (fun ls' hl' => k hlen H locs ls' hR hS (jm_L_st1 hl'))
      · cases h
    · cases h
  · split at h
    · rename_i hn
      obtain ⟨hn, hm⟩ := hn
      subst hn
      split at h
      · cases h
        exact lv_istore hx hb hd hl hm rfl (fun ls' hl' => k hlen H locs ls' hR hS (jm_L_st1 hl'))
      · cases h
    · cases h
  · split at h
    · rename_i hn
      obtain ⟨hn, hm⟩ := hn
      subst hn
      split at h
      · cases h
        exact lv_lstore_n hx hb hd rfl hl hm rfl (fun ls' hl' => k hlen H locs ls' hR hS (jm_L_st2 hl'))
      · cases h
    · cases h
  · split at h
    · rename_i hn
      obtain ⟨hn, hm⟩ := hn
      subst hn
      split at h
      · cases h
        exact lv_lstore hx hb hd hl hm rfl (fun ls' hl' => k hlen H locs ls' hR hS (jm_L_st2 hl'))
      · cases h
    · cases h
  · split at h
    · rename_i hn
      obtain ⟨hn, hm⟩ := hn
      subst hn
      split at h
      · split at h
        · cases h
        · rename_i h6
          cases h
          simp only [List.map_cons, jm_cvr h6]
          exact lv_astore_n hx hb hd rfl hl hm rfl (fun ls' hl' => k hlen H locs ls' hR hS (jm_L_st1 (by rw [jm_cvr h6]; exact hl')))
      · cases h
    · cases h
  · split at h
    · rename_i hn
      obtain ⟨hn, hm⟩ := hn
      subst hn
      split at h
      · split at h
        · cases h
        · rename_i h6
          cases h
          simp only [List.map_cons, jm_cvr h6]
          exact lv_astore hx hb hd hl hm rfl (fun ls' hl' => k hlen H locs ls' hR hS (jm_L_st1 (by rw [jm_cvr h6]; exact hl')))
      · cases h
    · cases h
  · split at h
    · rename_i hn
      obtain ⟨hn, hm⟩ := hn
      subst hn
      split at h
      · rename_i x hv
        cases h
        have h1 : ∃ j : Nat, (jm_lv h0 ex 0 L)[j]? = some (_, .int x) := List.getElem?_of_mem (jm_lv_mem.mpr ⟨_, .int x, jm_ld_at hv, by rw [Nat.zero_add]; rfl⟩)
        obtain ⟨j, h1⟩ := h1
        exact lv_iinc hx hb hd hl h1 rfl hm rfl (fun ls' hl' => k hlen H locs ls' hR hS (jm_L_st1 hl'))
      · cases h
    · cases h
  · split at h
    · rename_i hn
      subst hn
      split at h
      · cases h
        exact lv_dup hx hb hd (by rw [jm_cv_cat]; rfl) (k hlen H locs ls hR hS hl)
      · cases h
        exact lv_dup hx hb hd (by rw [jm_cv_cat]; rfl) (k hlen H locs ls hR hS hl)
      · cases h
    · cases h
  · split at h
    · rename_i hn
      subst hn
      split at h
      · cases h
        exact lv_pop hx hb hd (by rw [jm_cv_cat]; rfl) (k hlen H locs ls hR hS hl)
      · cases h
        exact lv_pop hx hb hd (by rw [jm_cv_cat]; rfl) (k hlen H locs ls hR hS hl)
      · cases h
    · cases h
  · split at h
    · rename_i hn
      subst hn
      split at h
      · cases h
        exact lv_dup2_11 hx hb hd (by rw [jm_cv_cat]; rfl) (by rw [jm_cv_cat]; rfl) (k hlen H locs ls hR hS hl)
      · cases h
    · cases h
  · cases h
set_option maxHeartbeats 4000000 in
theorem jm_b1_ok (C0 : jm_C p s m args meth c D h0 ex ka Ls xs M n0) (hd : decode (jm_b M) pc = .ok (ins, n)) (h : jm_b1 ins n pc L S G (cn, sn) = some st) (k : jm_W p l e R s m args below meth c D h0 ex ka M n0 Q st) : jm_W p l e R s m args below meth c D h0 ex ka M n0 Q (pc, L, S, G, cn, sn) := by
  obtain ⟨hx, hb, -⟩ := C0
  intro hlen H locs ls hR hS hl
  unfold jm_b1 at h
  split at h
  · rename_i hn
    subst hn
    split at h
    · split at h
      · cases h
        exact lv_iadd hx hb hd (k hlen H locs ls hR hS hl)
      · cases h
    · split at h
      · cases h
        exact lv_isub hx hb hd (k hlen H locs ls hR hS hl)
      · cases h
    · split at h
      · cases h
        exact lv_imul hx hb hd (k hlen H locs ls hR hS hl)
      · cases h
    · split at h
      · cases h
        exact lv_iand hx hb hd (k hlen H locs ls hR hS hl)
      · cases h
    · split at h
      · cases h
        exact lv_ior hx hb hd (k hlen H locs ls hR hS hl)
      · cases h
    · split at h
      · cases h
        exact lv_ixor hx hb hd (k hlen H locs ls hR hS hl)
      · cases h
    · split at h
      · cases h
        exact lv_ishl hx hb hd (k hlen H locs ls hR hS hl)
      · cases h
    · split at h
      · cases h
        exact lv_ishr hx hb hd (k hlen H locs ls hR hS hl)
      · cases h
    · split at h
      · cases h
        exact lv_iushr hx hb hd rfl (k hlen H locs ls hR hS hl)
      · cases h
    · split at h
      · split at h
        · cases h
        · rename_i hne
          cases h
          exact lv_idiv hx hb hd hne (k hlen H locs ls hR hS hl)
      · cases h
    · split at h
      · split at h
        · cases h
        · rename_i hne
          cases h
          exact lv_irem hx hb hd hne (k hlen H locs ls hR hS hl)
      · cases h
    · split at h
      · cases h
        exact lv_ineg hx hb hd (k hlen H locs ls hR hS hl)
      · cases h
    · cases h
  · cases h
set_option maxHeartbeats 4000000 in
theorem jm_b2_ok (C0 : jm_C p s m args meth c D h0 ex ka Ls xs M n0) (hd : decode (jm_b M) pc = .ok (ins, n)) (h : jm_b2 ins n pc L S G (cn, sn) = some st) (k : jm_W p l e R s m args below meth c D h0 ex ka M n0 Q st) : jm_W p l e R s m args below meth c D h0 ex ka M n0 Q (pc, L, S, G, cn, sn) := by
  obtain ⟨hx, hb, -⟩ := C0
  intro hlen H locs ls hR hS hl
  unfold jm_b2 at h
  split at h
  · rename_i hn
    subst hn
    split at h
    · split at h
      · cases h
        exact lv_ladd hx hb hd (k hlen H locs ls hR hS hl)
      · cases h
    · split at h
      · cases h
        exact lv_lsub hx hb hd (k hlen H locs ls hR hS hl)
      · cases h
    · split at h
      · cases h
        exact lv_lmul hx hb hd (k hlen H locs ls hR hS hl)
      · cases h
    · split at h
      · split at h
        · cases h
        · rename_i hne
          cases h
          exact lv_ldiv hx hb hd hne (k hlen H locs ls hR hS hl)
      · cases h
    · split at h
      · split at h
        · cases h
        · rename_i hne
          cases h
          exact lv_lrem hx hb hd hne (k hlen H locs ls hR hS hl)
      · cases h
    · split at h
      · cases h
        exact W.lcmp hx hb hd (k hlen H locs ls hR hS hl)
      · cases h
    · split at h
      · cases h
        exact lv_i2l hx hb hd rfl (k hlen H locs ls hR hS hl)
      · cases h
    · split at h
      · cases h
        exact lv_l2i hx hb hd rfl (k hlen H locs ls hR hS hl)
      · cases h
    · split at h
      · cases h
        exact lv_i2b hx hb hd rfl (k hlen H locs ls hR hS hl)
      · cases h
    · split at h
      · cases h
        exact lv_i2c hx hb hd rfl (k hlen H locs ls hR hS hl)
      · cases h
    · cases h
  · cases h
set_option maxHeartbeats 4000000 in
theorem jm_c1_ok (C0 : jm_C p s m args meth c D h0 ex ka Ls xs M n0) (hd : decode (jm_b M) pc = .ok (ins, n)) (h : jm_c1 ins n pc L S G (cn, sn) = some st) (k : jm_W p l e R s m args below meth c D h0 ex ka M n0 Q st) : jm_W p l e R s m args below meth c D h0 ex ka M n0 Q (pc, L, S, G, cn, sn) := by
  obtain ⟨hx, hb, -⟩ := C0
  intro hlen H locs ls hR hS hl
  unfold jm_c1 at h
  split at h
  · split at h
    · rename_i hn
      subst hn
      split at h
      · rename_i ht
        have ht := jm_tg_ok ht
        split at h
        · cases h
          refine lv_if_eq hx hb hd ht (fun c1 => ?_) (fun c1 => ?_)
          · exact W.eq (by simp only [if_pos c1]) (k hlen H locs ls hR hS hl)
          · exact W.eq (by simp only [if_neg c1]) (k hlen H locs ls hR hS hl)
        · cases h
          refine lv_if_ne hx hb hd ht (fun c1 => ?_) (fun c1 => ?_)
          · exact W.eq (by simp only [if_neg c1]) (k hlen H locs ls hR hS hl)
          · exact W.eq (by simp only [if_pos c1]) (k hlen H locs ls hR hS hl)
        · cases h
          refine lv_if_lt hx hb hd ht (fun c1 => ?_) (fun c1 => ?_)
          · exact W.eq (by simp only [if_pos c1]) (k hlen H locs ls hR hS hl)
          · exact W.eq (by simp only [if_neg c1]) (k hlen H locs ls hR hS hl)
        · cases h
          refine lv_if_ge hx hb hd ht (fun c1 => ?_) (fun c1 => ?_)
          · exact W.eq (by simp only [if_pos c1]) (k hlen H locs ls hR hS hl)
          · exact W.eq (by simp only [if_neg c1]) (k hlen H locs ls hR hS hl)
        · cases h
          refine lv_if_gt hx hb hd ht (fun c1 => ?_) (fun c1 => ?_)
          · exact W.eq (by simp only [if_pos c1]) (k hlen H locs ls hR hS hl)
          · exact W.eq (by simp only [if_neg c1]) (k hlen H locs ls hR hS hl)
        · cases h
          refine lv_if_le hx hb hd ht (fun c1 => ?_) (fun c1 => ?_)
          · exact W.eq (by simp only [if_pos c1]) (k hlen H locs ls hR hS hl)
          · exact W.eq (by simp only [if_neg c1]) (k hlen H locs ls hR hS hl)
      · cases h
    · cases h
  · split at h
    · rename_i hn
      subst hn
      split at h
      · rename_i ht
        have ht := jm_tg_ok ht
        split at h
        · cases h
          refine lv_icmp_eq hx hb hd ht (fun c1 => ?_) (fun c1 => ?_)
          · exact W.eq (by simp only [if_pos c1]) (k hlen H locs ls hR hS hl)
          · exact W.eq (by simp only [if_neg c1]) (k hlen H locs ls hR hS hl)
        · cases h
          refine lv_icmp_ne hx hb hd ht (fun c1 => ?_) (fun c1 => ?_)
          · exact W.eq (by simp only [if_neg c1]) (k hlen H locs ls hR hS hl)
          · exact W.eq (by simp only [if_pos c1]) (k hlen H locs ls hR hS hl)
        · cases h
          refine lv_icmp_lt hx hb hd ht (fun c1 => ?_) (fun c1 => ?_)
          · exact W.eq (by simp only [if_pos c1]) (k hlen H locs ls hR hS hl)
          · exact W.eq (by simp only [if_neg c1]) (k hlen H locs ls hR hS hl)
        · cases h
          refine lv_icmp_ge hx hb hd ht (fun c1 => ?_) (fun c1 => ?_)
          · exact W.eq (by simp only [if_pos c1]) (k hlen H locs ls hR hS hl)
          · exact W.eq (by simp only [if_neg c1]) (k hlen H locs ls hR hS hl)
        · cases h
          refine lv_icmp_gt hx hb hd ht (fun c1 => ?_) (fun c1 => ?_)
          · exact W.eq (by simp only [if_pos c1]) (k hlen H locs ls hR hS hl)
          · exact W.eq (by simp only [if_neg c1]) (k hlen H locs ls hR hS hl)
        · cases h
          refine lv_icmp_le hx hb hd ht (fun c1 => ?_) (fun c1 => ?_)
          · exact W.eq (by simp only [if_pos c1]) (k hlen H locs ls hR hS hl)
          · exact W.eq (by simp only [if_neg c1]) (k hlen H locs ls hR hS hl)
      · cases h
    · cases h
  · split at h
    · rename_i hn
      subst hn
      split at h
      · rename_i ht
        cases h
        exact lv_goto hx hb hd (jm_tg_ok ht) (k hlen H locs ls hR hS hl)
      · cases h
    · cases h
  · split at h
    · split at h
      · rename_i hc
        split at h
        · rename_i ht
          cases h
          exact lv_tableOut hx hb hd hc (jm_tg_ok ht) (k hlen H locs ls hR hS hl)
        · cases h
      · rename_i hc
        split at h
        · rename_i ho
          split at h
          · rename_i ht
            cases h
            exact lv_tableIn hx hb hd (fun q => hc (Or.inl q)) (fun q => hc (Or.inr q)) ho (jm_tg_ok ht) (k hlen H locs ls hR hS hl)
          · cases h
        · cases h
    · cases h
  · cases h
end JM4
end
section
/-! ===== the heap: fields, arrays, what is made, constants: the step, and that it is followed ===== -/
def jm_tyt : List (Nat → FieldType) := [tyX0, tyX1, tyX2, tyX3, tyX4, tyX5, tyX6, tyX7, tyX8, tyX9, tyX10]
/-- of each class of the world: its words are in the tables, its fields' types, its names are apart -/
theorem jm_cls {ci N : Nat} {C : String} {T : u_T} (h : vwCl[ci]? = some (C, T, N)) : (∀ w ∈ u_ws C T N, w ∈ jm_tbl) ∧ ∃ ty, jm_tyt[ci]? = some ty ∧ (∀ k, k < N → parseFieldDescriptor (T k).2.2.1 = some (ty k)) ∧ ∀ a, a < N → ∀ b, b < N → a ≠ b → (T a).2.1 ≠ (T b).2.1 := by
  match ci, h with
  | 0, h => cases h; exact ⟨wiX0, tyX0, rfl, tyX0_ok, nmX0⟩
  | 1, h => cases h; exact ⟨wiX1, tyX1, rfl, tyX1_ok, nmX1⟩
  | 2, h => cases h; exact ⟨wiX2, tyX2, rfl, tyX2_ok, nmX2⟩
  | 3, h => cases h; exact ⟨wiX3, tyX3, rfl, tyX3_ok, nmX3⟩
  | 4, h => cases h; exact ⟨wiX4, tyX4, rfl, tyX4_ok, nmX4⟩
  | 5, h => cases h; exact ⟨wiX5, tyX5, rfl, tyX5_ok, nmX5⟩
  | 6, h => cases h; exact ⟨wiX6, tyX6, rfl, tyX6_ok, nmX6⟩
  | 7, h => cases h; exact ⟨wiX7, tyX7, rfl, tyX7_ok, nmX7⟩
  | 8, h => cases h; exact ⟨wiX8, tyX8, rfl, tyX8_ok, nmX8⟩
  | 9, h => cases h; exact ⟨wiX9, tyX9, rfl, tyX9_ok, nmX9⟩
  | 10, h => cases h; exact ⟨wiX10, tyX10, rfl, tyX10_ok, nmX10⟩
  | n + 11, h => simp [vwCl] at h
def jm_df (ci : Nat) : List Value := match vwCl[ci]?, jm_tyt[ci]? with
  | some q, some ty => (List.range q.2.2).map fun k => defaultValue (ty k)
  | _, _ => []
/-- a word stands in the tables at a place -/
def jm_at (i : Nat) (w : Cond) : Bool := decide (jm_lk i = some w) && goodWord w
theorem jm_at_mem {i : Nat} {w : Cond} (h : jm_at i w = true) : w ∈ jm_tbl := by
  unfold jm_at at h
  rw [Bool.and_eq_true] at h
  exact jm_tbl_mem (jm_lk_mem (of_decide_eq_true h.1)) h.2
def jm_atn (i : Nat) (w : Cond) : Bool := decide (jm_lk i = some w) && jm_isN w
theorem jm_atn_use {i : Nat} {w : Cond} {args : Array Value} {s : State} (h : jm_atn i w = true) (hN : ∀ w ∈ lw_tbl, jm_isN w = true → va_Nw w s) : w.before args s = true := by
  unfold jm_atn at h
  rw [Bool.and_eq_true] at h
  exact va_Nw.use (jm_N_tab h.2) (hN w (jm_lk_mem (of_decide_eq_true h.1)) h.2)
/-- type codes of fields: 0 int, 1 boolean, 2 long, 3 a reference -/
def jm_tc (ty : FieldType) : Nat := match ty with
  | .int => 0
  | .boolean => 1
  | .long => 2
  | .object _ => 3
  | .array _ => 3
  | _ => 9
def jm_sn (a : Nat) : String := if a = 0 then "LEAST" else if a = 1 then "MOST" else "TOLD_VARS"
/-- the bytes from a place on -/
noncomputable def jm_dr {α : Type} (l : List α) : Nat → List α := List.rec (motive := fun _ => Nat → List α) (fun _ => []) (fun a r ih n => Nat.rec (motive := fun _ => List α) (a :: r) (fun m _ => ih m) n) l
theorem jm_dr_drop {α : Type} : ∀ (l : List α) (n : Nat), jm_dr l n = l.drop n
  | [], n => by rw [List.drop_nil]; rfl
  | _ :: _, 0 => rfl
  | _ :: r, n + 1 => jm_dr_drop r n
theorem jm_u1 {b : ByteArray} {p : Nat} {x : UInt8} {r : List UInt8} (h : jm_dr b.data.toList p = x :: r) : (Reader.u1 : Reader DecodeError Nat) b p = .ok (x.toNat, p + 1) := by
  rw [jm_dr_drop] at h
  have hl : p < b.data.toList.length := by
    rcases Nat.lt_or_ge p b.data.toList.length with q | q
    · exact q
    · rw [List.drop_eq_nil_of_le q] at h; cases h
  have hp : p < b.size := by
    rw [Array.length_toList] at hl
    exact hl
  have hx : b[p]'hp = x := by
    have k : b.data.toList[p]? = some x := by
      have := congrArg List.head? h
      rw [List.head?_drop] at this
      exact this
    have e : b.data.toList[p]? = some (b[p]'hp) := by
      rw [List.getElem?_eq_getElem hl]
      rfl
    exact Option.some.inj (e.symm.trans k)
  have e : (Reader.u1 : Reader DecodeError Nat) b p = (if h : p < b.size then (Except.ok ((b[p]'h).toNat, p + 1) : Except DecodeError (Nat × Nat)) else .error (HasTruncated.truncated p)) := by
    show (dite (p < b.size) (fun h => (do set (p + 1); pure (b[p]'h).toNat : Reader DecodeError Nat)) (fun _ => throw (HasTruncated.truncated p)) : Reader DecodeError Nat) b p = _
    rw [dif_pos hp, dif_pos hp]
    rfl
  rw [e, dif_pos hp, hx]
theorem jm_bu {α : Type} {f : Nat → Reader DecodeError α} {b : ByteArray} {p : Nat} {x : UInt8} {r : List UInt8} (h : jm_dr b.data.toList p = x :: r) : ((Reader.u1 : Reader DecodeError Nat) >>= f) b p = f x.toNat b (p + 1) := by
  show Except.bind ((Reader.u1 : Reader DecodeError Nat) b p) (fun q => f q.1 b q.2) = _
  rw [jm_u1 h]
  rfl
theorem jm_drs {α : Type} {l : List α} {p : Nat} {x : α} {r : List α} (h : jm_dr l p = x :: r) : jm_dr l (p + 1) = r := by
  rw [jm_dr_drop] at h ⊢
  rw [← List.tail_drop, h]
  rfl
theorem jm_u2 {b : ByteArray} {p : Nat} {x y : UInt8} {r : List UInt8} (h : jm_dr b.data.toList p = x :: y :: r) : (Reader.u2 : Reader DecodeError Nat) b p = .ok (x.toNat * 256 + y.toNat, p + 1 + 1) := by
  show Except.bind ((Reader.u1 : Reader DecodeError Nat) b p) (fun q => Except.bind ((Reader.u1 : Reader DecodeError Nat) b q.2) (fun q1 => Except.ok (q.1 * 256 + q1.1, q1.2))) = _
  rw [jm_u1 h]
  show Except.bind ((Reader.u1 : Reader DecodeError Nat) b (p + 1)) (fun q1 => Except.ok (x.toNat * 256 + q1.1, q1.2)) = _
  rw [jm_u1 (jm_drs h)]
  rfl
theorem jm_bu2 {α : Type} {f : Nat → Reader DecodeError α} {b : ByteArray} {p : Nat} {x y : UInt8} {r : List UInt8} (h : jm_dr b.data.toList p = x :: y :: r) : ((Reader.u2 : Reader DecodeError Nat) >>= f) b p = f (x.toNat * 256 + y.toNat) b (p + 2) := by
  show Except.bind ((Reader.u2 : Reader DecodeError Nat) b p) (fun q => f q.1 b q.2) = _
  rw [jm_u2 h]
  rfl
theorem jm_bs2 {α : Type} {f : Int → Reader DecodeError α} {b : ByteArray} {p : Nat} {x y : UInt8} {r : List UInt8} (h : jm_dr b.data.toList p = x :: y :: r) : ((Reader.s2 : Reader DecodeError Int) >>= f) b p = f (Reader.signed 16 (x.toNat * 256 + y.toNat)) b (p + 2) := by
  show Except.bind (Except.map (fun q : Nat × Nat => (Reader.signed 16 q.1, q.2)) ((Reader.u2 : Reader DecodeError Nat) b p)) (fun q => f q.1 b q.2) = _
  rw [jm_u2 h]
  rfl
theorem jm_dec {b : ByteArray} {p q : Nat} {i : Instr} (h : Decoder.instr p b p = .ok (i, q)) : decode b p = .ok (i, q - p) := by
  show Except.bind (Decoder.instr p b p) (fun z => Except.ok (z.1, z.2 - p)) = _
  rw [h]
  rfl
noncomputable def jm_o0 (l : List UInt8) (op n : Nat) : Bool := match l with
  | x :: _ => Nat.beq x.toNat op && Nat.beq n 1
  | _ => false
noncomputable def jm_o2 (l : List UInt8) (op k n : Nat) : Bool := match l with
  | x :: y :: z :: _ => Nat.beq x.toNat op && Nat.beq (y.toNat * 256 + z.toNat) k && Nat.beq n 3
  | _ => false
noncomputable def jm_s2 (l : List UInt8) (op : Nat) (d : Int) (n : Nat) : Bool := match l with
  | x :: y :: z :: _ => Nat.beq x.toNat op && decide (Reader.signed 16 (y.toNat * 256 + z.toNat) = d) && Nat.beq n 3
  | _ => false
theorem jm_o0_use {l : List UInt8} {op n : Nat} (h : jm_o0 l op n = true) : ∃ (x : UInt8) (r : List UInt8), l = x :: r ∧ x.toNat = op ∧ n = 1 := by
  unfold jm_o0 at h
  split at h
  · rename_i x r
    rw [Bool.and_eq_true] at h
    exact ⟨x, r, rfl, Nat.eq_of_beq_eq_true h.1, Nat.eq_of_beq_eq_true h.2⟩
  · cases h
theorem jm_o2_use {l : List UInt8} {op k n : Nat} (h : jm_o2 l op k n = true) : ∃ (x y z : UInt8) (r : List UInt8), l = x :: y :: z :: r ∧ x.toNat = op ∧ y.toNat * 256 + z.toNat = k ∧ n = 3 := by
  unfold jm_o2 at h
  split at h
  · rename_i x y z r
    rw [Bool.and_eq_true, Bool.and_eq_true] at h
    exact ⟨x, y, z, r, rfl, Nat.eq_of_beq_eq_true h.1.1, Nat.eq_of_beq_eq_true h.1.2, Nat.eq_of_beq_eq_true h.2⟩
  · cases h
theorem jm_s2_use {l : List UInt8} {op n : Nat} {d : Int} (h : jm_s2 l op d n = true) : ∃ (x y z : UInt8) (r : List UInt8), l = x :: y :: z :: r ∧ x.toNat = op ∧ Reader.signed 16 (y.toNat * 256 + z.toNat) = d ∧ n = 3 := by
  unfold jm_s2 at h
  split at h
  · rename_i x y z r
    rw [Bool.and_eq_true, Bool.and_eq_true] at h
    exact ⟨x, y, z, r, rfl, Nat.eq_of_beq_eq_true h.1.1, of_decide_eq_true h.1.2, Nat.eq_of_beq_eq_true h.2⟩
  · cases h
set_option maxRecDepth 100000 in
theorem jm_d_iadd {b : ByteArray} {p n : Nat} (h : jm_o0 (jm_dr b.data.toList p) 96 n = true) : decode b p = .ok (.iadd, n) := by
  obtain ⟨x, r, h1, h2, h3⟩ := jm_o0_use h
  have e : Decoder.instr p b p = .ok (.iadd, p + 1) := (jm_bu h1).trans (by rw [h2]; rfl)
  rw [jm_dec e, Nat.add_sub_cancel_left, h3]
set_option maxRecDepth 100000 in
theorem jm_d_isub {b : ByteArray} {p n : Nat} (h : jm_o0 (jm_dr b.data.toList p) 100 n = true) : decode b p = .ok (.isub, n) := by
  obtain ⟨x, r, h1, h2, h3⟩ := jm_o0_use h
  have e : Decoder.instr p b p = .ok (.isub, p + 1) := (jm_bu h1).trans (by rw [h2]; rfl)
  rw [jm_dec e, Nat.add_sub_cancel_left, h3]
set_option maxRecDepth 100000 in
theorem jm_d_imul {b : ByteArray} {p n : Nat} (h : jm_o0 (jm_dr b.data.toList p) 104 n = true) : decode b p = .ok (.imul, n) := by
  obtain ⟨x, r, h1, h2, h3⟩ := jm_o0_use h
  have e : Decoder.instr p b p = .ok (.imul, p + 1) := (jm_bu h1).trans (by rw [h2]; rfl)
  rw [jm_dec e, Nat.add_sub_cancel_left, h3]
set_option maxRecDepth 100000 in
theorem jm_d_iaload {b : ByteArray} {p n : Nat} (h : jm_o0 (jm_dr b.data.toList p) 46 n = true) : decode b p = .ok (.iaload, n) := by
  obtain ⟨x, r, h1, h2, h3⟩ := jm_o0_use h
  have e : Decoder.instr p b p = .ok (.iaload, p + 1) := (jm_bu h1).trans (by rw [h2]; rfl)
  rw [jm_dec e, Nat.add_sub_cancel_left, h3]
set_option maxRecDepth 100000 in
theorem jm_d_iastore {b : ByteArray} {p n : Nat} (h : jm_o0 (jm_dr b.data.toList p) 79 n = true) : decode b p = .ok (.iastore, n) := by
  obtain ⟨x, r, h1, h2, h3⟩ := jm_o0_use h
  have e : Decoder.instr p b p = .ok (.iastore, p + 1) := (jm_bu h1).trans (by rw [h2]; rfl)
  rw [jm_dec e, Nat.add_sub_cancel_left, h3]
set_option maxRecDepth 100000 in
theorem jm_d_ireturn {b : ByteArray} {p n : Nat} (h : jm_o0 (jm_dr b.data.toList p) 172 n = true) : decode b p = .ok (.ireturn, n) := by
  obtain ⟨x, r, h1, h2, h3⟩ := jm_o0_use h
  have e : Decoder.instr p b p = .ok (.ireturn, p + 1) := (jm_bu h1).trans (by rw [h2]; rfl)
  rw [jm_dec e, Nat.add_sub_cancel_left, h3]
set_option maxRecDepth 100000 in
theorem jm_d_return_ {b : ByteArray} {p n : Nat} (h : jm_o0 (jm_dr b.data.toList p) 177 n = true) : decode b p = .ok (.return_, n) := by
  obtain ⟨x, r, h1, h2, h3⟩ := jm_o0_use h
  have e : Decoder.instr p b p = .ok (.return_, p + 1) := (jm_bu h1).trans (by rw [h2]; rfl)
  rw [jm_dec e, Nat.add_sub_cancel_left, h3]
set_option maxRecDepth 100000 in
theorem jm_d_lreturn {b : ByteArray} {p n : Nat} (h : jm_o0 (jm_dr b.data.toList p) 173 n = true) : decode b p = .ok (.lreturn, n) := by
  obtain ⟨x, r, h1, h2, h3⟩ := jm_o0_use h
  have e : Decoder.instr p b p = .ok (.lreturn, p + 1) := (jm_bu h1).trans (by rw [h2]; rfl)
  rw [jm_dec e, Nat.add_sub_cancel_left, h3]
set_option maxRecDepth 100000 in
theorem jm_d_pop {b : ByteArray} {p n : Nat} (h : jm_o0 (jm_dr b.data.toList p) 87 n = true) : decode b p = .ok (.pop, n) := by
  obtain ⟨x, r, h1, h2, h3⟩ := jm_o0_use h
  have e : Decoder.instr p b p = .ok (.pop, p + 1) := (jm_bu h1).trans (by rw [h2]; rfl)
  rw [jm_dec e, Nat.add_sub_cancel_left, h3]
set_option maxRecDepth 100000 in
theorem jm_d_dup {b : ByteArray} {p n : Nat} (h : jm_o0 (jm_dr b.data.toList p) 89 n = true) : decode b p = .ok (.dup, n) := by
  obtain ⟨x, r, h1, h2, h3⟩ := jm_o0_use h
  have e : Decoder.instr p b p = .ok (.dup, p + 1) := (jm_bu h1).trans (by rw [h2]; rfl)
  rw [jm_dec e, Nat.add_sub_cancel_left, h3]
set_option maxRecDepth 100000 in
theorem jm_d_iload_n0 {b : ByteArray} {p n : Nat} (h : jm_o0 (jm_dr b.data.toList p) 26 n = true) : decode b p = .ok (.iload_n 0, n) := by
  obtain ⟨x, r, h1, h2, h3⟩ := jm_o0_use h
  have e : Decoder.instr p b p = .ok (.iload_n 0, p + 1) := (jm_bu h1).trans (by rw [h2]; rfl)
  rw [jm_dec e, Nat.add_sub_cancel_left, h3]
set_option maxRecDepth 100000 in
theorem jm_d_iload_n1 {b : ByteArray} {p n : Nat} (h : jm_o0 (jm_dr b.data.toList p) 27 n = true) : decode b p = .ok (.iload_n 1, n) := by
  obtain ⟨x, r, h1, h2, h3⟩ := jm_o0_use h
  have e : Decoder.instr p b p = .ok (.iload_n 1, p + 1) := (jm_bu h1).trans (by rw [h2]; rfl)
  rw [jm_dec e, Nat.add_sub_cancel_left, h3]
set_option maxRecDepth 100000 in
theorem jm_d_iload_n2 {b : ByteArray} {p n : Nat} (h : jm_o0 (jm_dr b.data.toList p) 28 n = true) : decode b p = .ok (.iload_n 2, n) := by
  obtain ⟨x, r, h1, h2, h3⟩ := jm_o0_use h
  have e : Decoder.instr p b p = .ok (.iload_n 2, p + 1) := (jm_bu h1).trans (by rw [h2]; rfl)
  rw [jm_dec e, Nat.add_sub_cancel_left, h3]
set_option maxRecDepth 100000 in
theorem jm_d_iload_n3 {b : ByteArray} {p n : Nat} (h : jm_o0 (jm_dr b.data.toList p) 29 n = true) : decode b p = .ok (.iload_n 3, n) := by
  obtain ⟨x, r, h1, h2, h3⟩ := jm_o0_use h
  have e : Decoder.instr p b p = .ok (.iload_n 3, p + 1) := (jm_bu h1).trans (by rw [h2]; rfl)
  rw [jm_dec e, Nat.add_sub_cancel_left, h3]
set_option maxRecDepth 100000 in
theorem jm_d_aload_n0 {b : ByteArray} {p n : Nat} (h : jm_o0 (jm_dr b.data.toList p) 42 n = true) : decode b p = .ok (.aload_n 0, n) := by
  obtain ⟨x, r, h1, h2, h3⟩ := jm_o0_use h
  have e : Decoder.instr p b p = .ok (.aload_n 0, p + 1) := (jm_bu h1).trans (by rw [h2]; rfl)
  rw [jm_dec e, Nat.add_sub_cancel_left, h3]
set_option maxRecDepth 100000 in
theorem jm_d_aload_n1 {b : ByteArray} {p n : Nat} (h : jm_o0 (jm_dr b.data.toList p) 43 n = true) : decode b p = .ok (.aload_n 1, n) := by
  obtain ⟨x, r, h1, h2, h3⟩ := jm_o0_use h
  have e : Decoder.instr p b p = .ok (.aload_n 1, p + 1) := (jm_bu h1).trans (by rw [h2]; rfl)
  rw [jm_dec e, Nat.add_sub_cancel_left, h3]
set_option maxRecDepth 100000 in
theorem jm_d_aload_n2 {b : ByteArray} {p n : Nat} (h : jm_o0 (jm_dr b.data.toList p) 44 n = true) : decode b p = .ok (.aload_n 2, n) := by
  obtain ⟨x, r, h1, h2, h3⟩ := jm_o0_use h
  have e : Decoder.instr p b p = .ok (.aload_n 2, p + 1) := (jm_bu h1).trans (by rw [h2]; rfl)
  rw [jm_dec e, Nat.add_sub_cancel_left, h3]
set_option maxRecDepth 100000 in
theorem jm_d_aload_n3 {b : ByteArray} {p n : Nat} (h : jm_o0 (jm_dr b.data.toList p) 45 n = true) : decode b p = .ok (.aload_n 3, n) := by
  obtain ⟨x, r, h1, h2, h3⟩ := jm_o0_use h
  have e : Decoder.instr p b p = .ok (.aload_n 3, p + 1) := (jm_bu h1).trans (by rw [h2]; rfl)
  rw [jm_dec e, Nat.add_sub_cancel_left, h3]
set_option maxRecDepth 100000 in
theorem jm_d_istore_n0 {b : ByteArray} {p n : Nat} (h : jm_o0 (jm_dr b.data.toList p) 59 n = true) : decode b p = .ok (.istore_n 0, n) := by
  obtain ⟨x, r, h1, h2, h3⟩ := jm_o0_use h
  have e : Decoder.instr p b p = .ok (.istore_n 0, p + 1) := (jm_bu h1).trans (by rw [h2]; rfl)
  rw [jm_dec e, Nat.add_sub_cancel_left, h3]
set_option maxRecDepth 100000 in
theorem jm_d_istore_n1 {b : ByteArray} {p n : Nat} (h : jm_o0 (jm_dr b.data.toList p) 60 n = true) : decode b p = .ok (.istore_n 1, n) := by
  obtain ⟨x, r, h1, h2, h3⟩ := jm_o0_use h
  have e : Decoder.instr p b p = .ok (.istore_n 1, p + 1) := (jm_bu h1).trans (by rw [h2]; rfl)
  rw [jm_dec e, Nat.add_sub_cancel_left, h3]
set_option maxRecDepth 100000 in
theorem jm_d_istore_n2 {b : ByteArray} {p n : Nat} (h : jm_o0 (jm_dr b.data.toList p) 61 n = true) : decode b p = .ok (.istore_n 2, n) := by
  obtain ⟨x, r, h1, h2, h3⟩ := jm_o0_use h
  have e : Decoder.instr p b p = .ok (.istore_n 2, p + 1) := (jm_bu h1).trans (by rw [h2]; rfl)
  rw [jm_dec e, Nat.add_sub_cancel_left, h3]
set_option maxRecDepth 100000 in
theorem jm_d_istore_n3 {b : ByteArray} {p n : Nat} (h : jm_o0 (jm_dr b.data.toList p) 62 n = true) : decode b p = .ok (.istore_n 3, n) := by
  obtain ⟨x, r, h1, h2, h3⟩ := jm_o0_use h
  have e : Decoder.instr p b p = .ok (.istore_n 3, p + 1) := (jm_bu h1).trans (by rw [h2]; rfl)
  rw [jm_dec e, Nat.add_sub_cancel_left, h3]
set_option maxRecDepth 100000 in
theorem jm_d_lload_n0 {b : ByteArray} {p n : Nat} (h : jm_o0 (jm_dr b.data.toList p) 30 n = true) : decode b p = .ok (.lload_n 0, n) := by
  obtain ⟨x, r, h1, h2, h3⟩ := jm_o0_use h
  have e : Decoder.instr p b p = .ok (.lload_n 0, p + 1) := (jm_bu h1).trans (by rw [h2]; rfl)
  rw [jm_dec e, Nat.add_sub_cancel_left, h3]
set_option maxRecDepth 100000 in
theorem jm_d_lload_n1 {b : ByteArray} {p n : Nat} (h : jm_o0 (jm_dr b.data.toList p) 31 n = true) : decode b p = .ok (.lload_n 1, n) := by
  obtain ⟨x, r, h1, h2, h3⟩ := jm_o0_use h
  have e : Decoder.instr p b p = .ok (.lload_n 1, p + 1) := (jm_bu h1).trans (by rw [h2]; rfl)
  rw [jm_dec e, Nat.add_sub_cancel_left, h3]
set_option maxRecDepth 100000 in
theorem jm_d_lload_n2 {b : ByteArray} {p n : Nat} (h : jm_o0 (jm_dr b.data.toList p) 32 n = true) : decode b p = .ok (.lload_n 2, n) := by
  obtain ⟨x, r, h1, h2, h3⟩ := jm_o0_use h
  have e : Decoder.instr p b p = .ok (.lload_n 2, p + 1) := (jm_bu h1).trans (by rw [h2]; rfl)
  rw [jm_dec e, Nat.add_sub_cancel_left, h3]
set_option maxRecDepth 100000 in
theorem jm_d_lload_n3 {b : ByteArray} {p n : Nat} (h : jm_o0 (jm_dr b.data.toList p) 33 n = true) : decode b p = .ok (.lload_n 3, n) := by
  obtain ⟨x, r, h1, h2, h3⟩ := jm_o0_use h
  have e : Decoder.instr p b p = .ok (.lload_n 3, p + 1) := (jm_bu h1).trans (by rw [h2]; rfl)
  rw [jm_dec e, Nat.add_sub_cancel_left, h3]
set_option maxRecDepth 100000 in
theorem jm_d_getstatic {b : ByteArray} {p n k : Nat} (h : jm_o2 (jm_dr b.data.toList p) 178 k n = true) : decode b p = .ok (.getstatic k, n) := by
  obtain ⟨x, y, z, r, h1, h2, h3, h4⟩ := jm_o2_use h
  have e : Decoder.instr p b p = .ok (.getstatic k, p + 1 + 2) := (jm_bu h1).trans (by rw [h2]; exact (jm_bu2 (jm_drs h1)).trans (by rw [h3]; rfl))
  rw [jm_dec e, show p + 1 + 2 - p = 3 by omega, h4]
set_option maxRecDepth 100000 in
theorem jm_d_getfield {b : ByteArray} {p n k : Nat} (h : jm_o2 (jm_dr b.data.toList p) 180 k n = true) : decode b p = .ok (.getfield k, n) := by
  obtain ⟨x, y, z, r, h1, h2, h3, h4⟩ := jm_o2_use h
  have e : Decoder.instr p b p = .ok (.getfield k, p + 1 + 2) := (jm_bu h1).trans (by rw [h2]; exact (jm_bu2 (jm_drs h1)).trans (by rw [h3]; rfl))
  rw [jm_dec e, show p + 1 + 2 - p = 3 by omega, h4]
set_option maxRecDepth 100000 in
theorem jm_d_putfield {b : ByteArray} {p n k : Nat} (h : jm_o2 (jm_dr b.data.toList p) 181 k n = true) : decode b p = .ok (.putfield k, n) := by
  obtain ⟨x, y, z, r, h1, h2, h3, h4⟩ := jm_o2_use h
  have e : Decoder.instr p b p = .ok (.putfield k, p + 1 + 2) := (jm_bu h1).trans (by rw [h2]; exact (jm_bu2 (jm_drs h1)).trans (by rw [h3]; rfl))
  rw [jm_dec e, show p + 1 + 2 - p = 3 by omega, h4]
set_option maxRecDepth 100000 in
theorem jm_d_invokevirtual {b : ByteArray} {p n k : Nat} (h : jm_o2 (jm_dr b.data.toList p) 182 k n = true) : decode b p = .ok (.invokevirtual k, n) := by
  obtain ⟨x, y, z, r, h1, h2, h3, h4⟩ := jm_o2_use h
  have e : Decoder.instr p b p = .ok (.invokevirtual k, p + 1 + 2) := (jm_bu h1).trans (by rw [h2]; exact (jm_bu2 (jm_drs h1)).trans (by rw [h3]; rfl))
  rw [jm_dec e, show p + 1 + 2 - p = 3 by omega, h4]
set_option maxRecDepth 100000 in
theorem jm_d_invokespecial {b : ByteArray} {p n k : Nat} (h : jm_o2 (jm_dr b.data.toList p) 183 k n = true) : decode b p = .ok (.invokespecial k, n) := by
  obtain ⟨x, y, z, r, h1, h2, h3, h4⟩ := jm_o2_use h
  have e : Decoder.instr p b p = .ok (.invokespecial k, p + 1 + 2) := (jm_bu h1).trans (by rw [h2]; exact (jm_bu2 (jm_drs h1)).trans (by rw [h3]; rfl))
  rw [jm_dec e, show p + 1 + 2 - p = 3 by omega, h4]
set_option maxRecDepth 100000 in
theorem jm_d_invokestatic {b : ByteArray} {p n k : Nat} (h : jm_o2 (jm_dr b.data.toList p) 184 k n = true) : decode b p = .ok (.invokestatic k, n) := by
  obtain ⟨x, y, z, r, h1, h2, h3, h4⟩ := jm_o2_use h
  have e : Decoder.instr p b p = .ok (.invokestatic k, p + 1 + 2) := (jm_bu h1).trans (by rw [h2]; exact (jm_bu2 (jm_drs h1)).trans (by rw [h3]; rfl))
  rw [jm_dec e, show p + 1 + 2 - p = 3 by omega, h4]
set_option maxRecDepth 100000 in
theorem jm_d_if_icmp_eq {b : ByteArray} {p n : Nat} {d : Int} (h : jm_s2 (jm_dr b.data.toList p) 159 d n = true) : decode b p = .ok (.if_icmp .eq d, n) := by
  obtain ⟨x, y, z, r, h1, h2, h3, h4⟩ := jm_s2_use h
  have e : Decoder.instr p b p = .ok (.if_icmp .eq d, p + 1 + 2) := (jm_bu h1).trans (by rw [h2]; exact (jm_bs2 (jm_drs h1)).trans (by rw [h3]; rfl))
  rw [jm_dec e, show p + 1 + 2 - p = 3 by omega, h4]
set_option maxRecDepth 100000 in
theorem jm_d_ifCond_eq {b : ByteArray} {p n : Nat} {d : Int} (h : jm_s2 (jm_dr b.data.toList p) 153 d n = true) : decode b p = .ok (.ifCond .eq d, n) := by
  obtain ⟨x, y, z, r, h1, h2, h3, h4⟩ := jm_s2_use h
  have e : Decoder.instr p b p = .ok (.ifCond .eq d, p + 1 + 2) := (jm_bu h1).trans (by rw [h2]; exact (jm_bs2 (jm_drs h1)).trans (by rw [h3]; rfl))
  rw [jm_dec e, show p + 1 + 2 - p = 3 by omega, h4]
set_option maxRecDepth 100000 in
theorem jm_d_if_icmp_ne {b : ByteArray} {p n : Nat} {d : Int} (h : jm_s2 (jm_dr b.data.toList p) 160 d n = true) : decode b p = .ok (.if_icmp .ne d, n) := by
  obtain ⟨x, y, z, r, h1, h2, h3, h4⟩ := jm_s2_use h
  have e : Decoder.instr p b p = .ok (.if_icmp .ne d, p + 1 + 2) := (jm_bu h1).trans (by rw [h2]; exact (jm_bs2 (jm_drs h1)).trans (by rw [h3]; rfl))
  rw [jm_dec e, show p + 1 + 2 - p = 3 by omega, h4]
set_option maxRecDepth 100000 in
theorem jm_d_ifCond_ne {b : ByteArray} {p n : Nat} {d : Int} (h : jm_s2 (jm_dr b.data.toList p) 154 d n = true) : decode b p = .ok (.ifCond .ne d, n) := by
  obtain ⟨x, y, z, r, h1, h2, h3, h4⟩ := jm_s2_use h
  have e : Decoder.instr p b p = .ok (.ifCond .ne d, p + 1 + 2) := (jm_bu h1).trans (by rw [h2]; exact (jm_bs2 (jm_drs h1)).trans (by rw [h3]; rfl))
  rw [jm_dec e, show p + 1 + 2 - p = 3 by omega, h4]
set_option maxRecDepth 100000 in
theorem jm_d_if_icmp_lt {b : ByteArray} {p n : Nat} {d : Int} (h : jm_s2 (jm_dr b.data.toList p) 161 d n = true) : decode b p = .ok (.if_icmp .lt d, n) := by
  obtain ⟨x, y, z, r, h1, h2, h3, h4⟩ := jm_s2_use h
  have e : Decoder.instr p b p = .ok (.if_icmp .lt d, p + 1 + 2) := (jm_bu h1).trans (by rw [h2]; exact (jm_bs2 (jm_drs h1)).trans (by rw [h3]; rfl))
  rw [jm_dec e, show p + 1 + 2 - p = 3 by omega, h4]
set_option maxRecDepth 100000 in
theorem jm_d_ifCond_lt {b : ByteArray} {p n : Nat} {d : Int} (h : jm_s2 (jm_dr b.data.toList p) 155 d n = true) : decode b p = .ok (.ifCond .lt d, n) := by
  obtain ⟨x, y, z, r, h1, h2, h3, h4⟩ := jm_s2_use h
  have e : Decoder.instr p b p = .ok (.ifCond .lt d, p + 1 + 2) := (jm_bu h1).trans (by rw [h2]; exact (jm_bs2 (jm_drs h1)).trans (by rw [h3]; rfl))
  rw [jm_dec e, show p + 1 + 2 - p = 3 by omega, h4]
set_option maxRecDepth 100000 in
theorem jm_d_if_icmp_ge {b : ByteArray} {p n : Nat} {d : Int} (h : jm_s2 (jm_dr b.data.toList p) 162 d n = true) : decode b p = .ok (.if_icmp .ge d, n) := by
  obtain ⟨x, y, z, r, h1, h2, h3, h4⟩ := jm_s2_use h
  have e : Decoder.instr p b p = .ok (.if_icmp .ge d, p + 1 + 2) := (jm_bu h1).trans (by rw [h2]; exact (jm_bs2 (jm_drs h1)).trans (by rw [h3]; rfl))
  rw [jm_dec e, show p + 1 + 2 - p = 3 by omega, h4]
set_option maxRecDepth 100000 in
theorem jm_d_ifCond_ge {b : ByteArray} {p n : Nat} {d : Int} (h : jm_s2 (jm_dr b.data.toList p) 156 d n = true) : decode b p = .ok (.ifCond .ge d, n) := by
  obtain ⟨x, y, z, r, h1, h2, h3, h4⟩ := jm_s2_use h
  have e : Decoder.instr p b p = .ok (.ifCond .ge d, p + 1 + 2) := (jm_bu h1).trans (by rw [h2]; exact (jm_bs2 (jm_drs h1)).trans (by rw [h3]; rfl))
  rw [jm_dec e, show p + 1 + 2 - p = 3 by omega, h4]
set_option maxRecDepth 100000 in
theorem jm_d_if_icmp_gt {b : ByteArray} {p n : Nat} {d : Int} (h : jm_s2 (jm_dr b.data.toList p) 163 d n = true) : decode b p = .ok (.if_icmp .gt d, n) := by
  obtain ⟨x, y, z, r, h1, h2, h3, h4⟩ := jm_s2_use h
  have e : Decoder.instr p b p = .ok (.if_icmp .gt d, p + 1 + 2) := (jm_bu h1).trans (by rw [h2]; exact (jm_bs2 (jm_drs h1)).trans (by rw [h3]; rfl))
  rw [jm_dec e, show p + 1 + 2 - p = 3 by omega, h4]
set_option maxRecDepth 100000 in
theorem jm_d_ifCond_gt {b : ByteArray} {p n : Nat} {d : Int} (h : jm_s2 (jm_dr b.data.toList p) 157 d n = true) : decode b p = .ok (.ifCond .gt d, n) := by
  obtain ⟨x, y, z, r, h1, h2, h3, h4⟩ := jm_s2_use h
  have e : Decoder.instr p b p = .ok (.ifCond .gt d, p + 1 + 2) := (jm_bu h1).trans (by rw [h2]; exact (jm_bs2 (jm_drs h1)).trans (by rw [h3]; rfl))
  rw [jm_dec e, show p + 1 + 2 - p = 3 by omega, h4]
set_option maxRecDepth 100000 in
theorem jm_d_if_icmp_le {b : ByteArray} {p n : Nat} {d : Int} (h : jm_s2 (jm_dr b.data.toList p) 164 d n = true) : decode b p = .ok (.if_icmp .le d, n) := by
  obtain ⟨x, y, z, r, h1, h2, h3, h4⟩ := jm_s2_use h
  have e : Decoder.instr p b p = .ok (.if_icmp .le d, p + 1 + 2) := (jm_bu h1).trans (by rw [h2]; exact (jm_bs2 (jm_drs h1)).trans (by rw [h3]; rfl))
  rw [jm_dec e, show p + 1 + 2 - p = 3 by omega, h4]
set_option maxRecDepth 100000 in
theorem jm_d_ifCond_le {b : ByteArray} {p n : Nat} {d : Int} (h : jm_s2 (jm_dr b.data.toList p) 158 d n = true) : decode b p = .ok (.ifCond .le d, n) := by
  obtain ⟨x, y, z, r, h1, h2, h3, h4⟩ := jm_s2_use h
  have e : Decoder.instr p b p = .ok (.ifCond .le d, p + 1 + 2) := (jm_bu h1).trans (by rw [h2]; exact (jm_bs2 (jm_drs h1)).trans (by rw [h3]; rfl))
  rw [jm_dec e, show p + 1 + 2 - p = 3 by omega, h4]
set_option maxRecDepth 100000 in
theorem jm_d_goto {b : ByteArray} {p n : Nat} {d : Int} (h : jm_s2 (jm_dr b.data.toList p) 167 d n = true) : decode b p = .ok (.goto d, n) := by
  obtain ⟨x, y, z, r, h1, h2, h3, h4⟩ := jm_s2_use h
  have e : Decoder.instr p b p = .ok (.goto d, p + 1 + 2) := (jm_bu h1).trans (by rw [h2]; exact (jm_bs2 (jm_drs h1)).trans (by rw [h3]; rfl))
  rw [jm_dec e, show p + 1 + 2 - p = 3 by omega, h4]
noncomputable def jm_dq (b : ByteArray) (p : Nat) (i : Instr) (n : Nat) : Bool := match i with
  | .iadd => jm_o0 (jm_dr b.data.toList p) 96 n
  | .isub => jm_o0 (jm_dr b.data.toList p) 100 n
  | .imul => jm_o0 (jm_dr b.data.toList p) 104 n
  | .iaload => jm_o0 (jm_dr b.data.toList p) 46 n
  | .iastore => jm_o0 (jm_dr b.data.toList p) 79 n
  | .ireturn => jm_o0 (jm_dr b.data.toList p) 172 n
  | .return_ => jm_o0 (jm_dr b.data.toList p) 177 n
  | .lreturn => jm_o0 (jm_dr b.data.toList p) 173 n
  | .pop => jm_o0 (jm_dr b.data.toList p) 87 n
  | .dup => jm_o0 (jm_dr b.data.toList p) 89 n
  | .iload_n k => jm_o0 (jm_dr b.data.toList p) (26 + k.val) n
  | .aload_n k => jm_o0 (jm_dr b.data.toList p) (42 + k.val) n
  | .istore_n k => jm_o0 (jm_dr b.data.toList p) (59 + k.val) n
  | .lload_n k => jm_o0 (jm_dr b.data.toList p) (30 + k.val) n
  | .getstatic k => jm_o2 (jm_dr b.data.toList p) 178 k n
  | .getfield k => jm_o2 (jm_dr b.data.toList p) 180 k n
  | .putfield k => jm_o2 (jm_dr b.data.toList p) 181 k n
  | .invokevirtual k => jm_o2 (jm_dr b.data.toList p) 182 k n
  | .invokespecial k => jm_o2 (jm_dr b.data.toList p) 183 k n
  | .invokestatic k => jm_o2 (jm_dr b.data.toList p) 184 k n
  | .if_icmp c d => (match c with
    | .eq => jm_s2 (jm_dr b.data.toList p) 159 d n
    | .ne => jm_s2 (jm_dr b.data.toList p) 160 d n
    | .lt => jm_s2 (jm_dr b.data.toList p) 161 d n
    | .ge => jm_s2 (jm_dr b.data.toList p) 162 d n
    | .gt => jm_s2 (jm_dr b.data.toList p) 163 d n
    | .le => jm_s2 (jm_dr b.data.toList p) 164 d n)
  | .ifCond c d => (match c with
    | .eq => jm_s2 (jm_dr b.data.toList p) 153 d n
    | .ne => jm_s2 (jm_dr b.data.toList p) 154 d n
    | .lt => jm_s2 (jm_dr b.data.toList p) 155 d n
    | .ge => jm_s2 (jm_dr b.data.toList p) 156 d n
    | .gt => jm_s2 (jm_dr b.data.toList p) 157 d n
    | .le => jm_s2 (jm_dr b.data.toList p) 158 d n)
  | .goto d => jm_s2 (jm_dr b.data.toList p) 167 d n
  | i => (match decode b p with
    | .ok q => decide (q.1 = i) && decide (q.2 = n)
    | .error _ => false)
theorem jm_dq_ok {b : ByteArray} {p : Nat} {i : Instr} {n : Nat} (h : jm_dq b p i n = true) : decode b p = .ok (i, n) := by
  unfold jm_dq at h
  split at h
  · exact jm_d_iadd h
  · exact jm_d_isub h
  · exact jm_d_imul h
  · exact jm_d_iaload h
  · exact jm_d_iastore h
  · exact jm_d_ireturn h
  · exact jm_d_return_ h
  · exact jm_d_lreturn h
  · exact jm_d_pop h
  · exact jm_d_dup h
  · rename_i k
    match k, h with
    | ⟨0, _⟩, h => exact jm_d_iload_n0 h
    | ⟨1, _⟩, h => exact jm_d_iload_n1 h
    | ⟨2, _⟩, h => exact jm_d_iload_n2 h
    | ⟨3, _⟩, h => exact jm_d_iload_n3 h
  · rename_i k
    match k, h with
    | ⟨0, _⟩, h => exact jm_d_aload_n0 h
    | ⟨1, _⟩, h => exact jm_d_aload_n1 h
    | ⟨2, _⟩, h => exact jm_d_aload_n2 h
    | ⟨3, _⟩, h => exact jm_d_aload_n3 h
  · rename_i k
    match k, h with
    | ⟨0, _⟩, h => exact jm_d_istore_n0 h
    | ⟨1, _⟩, h => exact jm_d_istore_n1 h
    | ⟨2, _⟩, h => exact jm_d_istore_n2 h
    | ⟨3, _⟩, h => exact jm_d_istore_n3 h
  · rename_i k
    match k, h with
    | ⟨0, _⟩, h => exact jm_d_lload_n0 h
    | ⟨1, _⟩, h => exact jm_d_lload_n1 h
    | ⟨2, _⟩, h => exact jm_d_lload_n2 h
    | ⟨3, _⟩, h => exact jm_d_lload_n3 h
  · exact jm_d_getstatic h
  · exact jm_d_getfield h
  · exact jm_d_putfield h
  · exact jm_d_invokevirtual h
  · exact jm_d_invokespecial h
  · exact jm_d_invokestatic h
  · split at h
    · exact jm_d_if_icmp_eq h
    · exact jm_d_if_icmp_ne h
    · exact jm_d_if_icmp_lt h
    · exact jm_d_if_icmp_ge h
    · exact jm_d_if_icmp_gt h
    · exact jm_d_if_icmp_le h
  · split at h
    · exact jm_d_ifCond_eq h
    · exact jm_d_ifCond_ne h
    · exact jm_d_ifCond_lt h
    · exact jm_d_ifCond_ge h
    · exact jm_d_ifCond_gt h
    · exact jm_d_ifCond_le h
  · exact jm_d_goto h
  · split at h
    · rename_i q hq
      rw [Bool.and_eq_true] at h
      rw [hq, ← of_decide_eq_true h.1, ← of_decide_eq_true h.2]
    · cases h
/-- an instruction's row holds: it is decoded there, and what it links is a word of the tables -/
noncomputable def jm_ck (YN : List MethodName) (M : jm_M) (pc : Nat) (e : jm_I) : Bool :=
  jm_dq (jm_b M) pc e.1 e.2.1 && (match e.1 with
    | .getfield i => if e.2.2.1 = 100 then (if e.2.2.2.1 = 0 then jm_at e.2.2.2.2 (.fieldLink (jm_y M).cls i "java/lang/String" "coder" "B") else jm_at e.2.2.2.2 (.fieldLink (jm_y M).cls i "java/lang/String" "value" "[B"))
      else (match vwCl[e.2.2.1]? with
        | some q => decide (e.2.2.2.1 < q.2.2) && jm_at e.2.2.2.2 (.fieldLink (jm_y M).cls i (q.2.1 e.2.2.2.1).1 (q.2.1 e.2.2.2.1).2.1 (q.2.1 e.2.2.2.1).2.2.1)
        | none => false)
    | .putfield i => (match vwCl[e.2.2.1]?, jm_tyt[e.2.2.1]? with
        | some q, some ty => decide (e.2.2.2.1 % 1000 < q.2.2) && decide (jm_tc (ty (e.2.2.2.1 % 1000)) = e.2.2.2.1 / 1000 % 10) && (if e.2.2.2.1 / 10000 = 0 then !(q.2.1 (e.2.2.2.1 % 1000)).2.2.2 else (q.2.1 (e.2.2.2.1 % 1000)).2.2.2 && decide ((jm_y M).name = "<init>") && decide ((q.2.1 (e.2.2.2.1 % 1000)).1 = (jm_y M).cls))
          && jm_at e.2.2.2.2 (.fieldLink (jm_y M).cls i (q.2.1 (e.2.2.2.1 % 1000)).1 (q.2.1 (e.2.2.2.1 % 1000)).2.1 (q.2.1 (e.2.2.2.1 % 1000)).2.2.1)
        | _, _ => false)
    | .getstatic i => if e.2.2.1 = 3 then jm_at e.2.2.2.2 (.fieldLink (jm_y M).cls i "java/lang/String" "COMPACT_STRINGS" "Z") else (if e.2.2.1 = 4 then jm_at e.2.2.2.2 (.fieldLink (jm_y M).cls i "jdk/internal/util/Preconditions" "SIOOBE_FORMATTER" "Ljava/util/function/BiFunction;") else jm_atn e.2.2.2.2 (.fieldLinkNest (jm_y M).cls i "FallMarket" (jm_sn e.2.2.1) "[I" "FallMarket"))
    | .new i => (match vwCl[e.2.2.1]? with
        | some q => jm_at e.2.2.2.2 (.classLink (jm_y M).cls i q.1)
        | none => false)
    | .ldc i => if e.2.2.2.1 = 0 then jm_at e.2.2.2.2 (.constant (jm_y M).cls i (Int32.ofNat e.2.2.1)) else decide ((jm_y M).cls = "FallMarket$Tokens") && decide (i = 25)
    | .ldc_w i => jm_at e.2.2.2.2 (.constant (jm_y M).cls i (Int32.ofNat e.2.2.1))
    | .ldc2_w i => jm_at e.2.2.2.2 (.constantLong (jm_y M).cls i (Int64.ofNat e.2.2.1))
    | .invokevirtual i => (match YN[e.2.2.1]? with
        | some y => (if e.2.2.2.1 = 1 then jm_atn e.2.2.2.2 (.methodLinkNest (jm_y M).cls i y "FallMarket") else jm_at e.2.2.2.2 (.methodLink (jm_y M).cls i y))
        | none => false)
    | .invokestatic i => if e.2.2.2.1 = 2 then jm_at e.2.2.2.2 (.methodLink (jm_y M).cls i arraycopyName) else (match YN[e.2.2.1]? with
        | some y => (if e.2.2.2.1 = 1 then jm_atn e.2.2.2.2 (.methodLinkNest (jm_y M).cls i y "FallMarket") else jm_at e.2.2.2.2 (.methodLink (jm_y M).cls i y))
        | none => false)
    | .invokespecial i => if e.2.2.2.1 = 2 then jm_at e.2.2.2.2 (.methodLink (jm_y M).cls i objectInit) else (match YN[e.2.2.1]? with
        | some y => (if e.2.2.2.1 = 1 then jm_atn e.2.2.2.2 (.methodLinkNest (jm_y M).cls i y "FallMarket") else jm_at e.2.2.2.2 (.methodLink (jm_y M).cls i y))
        | none => false)
    | _ => true)
theorem jm_ck_dec {YN : List MethodName} {M : jm_M} {pc : Nat} {e : jm_I} (h : jm_ck YN M pc e = true) : decode (jm_b M) pc = .ok (e.1, e.2.1) := by
  unfold jm_ck at h
  rw [Bool.and_eq_true] at h
  exact jm_dq_ok h.1
/-- a bound that is not met -/
def jm_out (i : Int32) (n : Nat) : Bool := decide (i < 0) || decide (n ≤ i.toNatClampNeg)
theorem jm_out_in {i : Int32} {n : Nat} (h : jm_out i n = false) : vp_in i n := by
  unfold jm_out at h
  rw [Bool.or_eq_false_iff] at h
  intro q
  rcases q with q | q
  · exact absurd q (of_decide_eq_false h.1)
  · exact absurd q (of_decide_eq_false h.2)
/-- a place of a list, and zeros up to it if it is shorter -/
def jm_upd : List Int32 → Nat → Int32 → List Int32
  | [], 0, x => [x]
  | [], k + 1, x => 0 :: jm_upd [] k x
  | _ :: r, 0, x => x :: r
  | a :: r, k + 1, x => a :: jm_upd r k x
def jm_updL : List Int64 → Nat → Int64 → List Int64
  | [], 0, x => [x]
  | [], k + 1, x => 0 :: jm_updL [] k x
  | _ :: r, 0, x => x :: r
  | a :: r, k + 1, x => a :: jm_updL r k x
theorem jm_upd_at : ∀ (f : List Int32) (k : Nat) (x : Int32) (j : Nat), (jm_upd f k x).getD j 0 = if j = k then x else f.getD j 0
  | [], 0, x, j => by cases j <;> simp [jm_upd]
  | [], k + 1, x, j => by
    cases j with
    | zero => simp [jm_upd]
    | succ j => have := jm_upd_at [] k x j; simp [jm_upd] at this ⊢; exact this
  | a :: r, 0, x, j => by cases j <;> simp [jm_upd]
  | a :: r, k + 1, x, j => by
    cases j with
    | zero => simp [jm_upd]
    | succ j => have := jm_upd_at r k x j; simp [jm_upd] at this ⊢; exact this
theorem jm_updL_at : ∀ (f : List Int64) (k : Nat) (x : Int64) (j : Nat), (jm_updL f k x).getD j 0 = if j = k then x else f.getD j 0
  | [], 0, x, j => by cases j <;> simp [jm_updL]
  | [], k + 1, x, j => by
    cases j with
    | zero => simp [jm_updL]
    | succ j => have := jm_updL_at [] k x j; simp [jm_updL] at this ⊢; exact this
  | a :: r, 0, x, j => by cases j <;> simp [jm_updL]
  | a :: r, k + 1, x, j => by
    cases j with
    | zero => simp [jm_updL]
    | succ j => have := jm_updL_at r k x j; simp [jm_updL] at this ⊢; exact this
theorem jm_upd_eq (f : List Int32) (k : Nat) (x : Int32) : upd (fun j => f.getD j 0) k x = fun j => (jm_upd f k x).getD j 0 := by
  funext j
  rw [jm_upd_at]
  rfl
theorem jm_updL_eq (f : List Int64) (k : Nat) (x : Int64) : vp_updL (fun j => f.getD j 0) k x = fun j => (jm_updL f k x).getD j 0 := by
  funext j
  rw [jm_updL_at]
  rfl
def jm_ak (t : ArrayType) : Nat := match t with
  | .int => 0
  | .byte => 1
  | .boolean => 2
  | .long => 3
  | _ => 9
def jm_a0 (kd n : Nat) : jm_c := .inl (kd, n, if kd = 3 then .inr [] else .inl [])
/-- a value that a field of a type may hold as it is -/
def jm_pv (tc : Nat) (v : Value) : Bool := match v with
  | .int x => decide (tc = 0) || (decide (tc = 1) && (decide (x = 0) || decide (x = 1)))
  | .long _ => decide (tc = 2)
  | .ref _ => decide (tc = 3)
  | _ => false
theorem jm_pv_ok {ty : FieldType} {v : Value} {h0 : Nat} {ex : Nat → Nat} (h : jm_pv (jm_tc ty) v = true) : narrow ty (jm_cv h0 ex v) = jm_cv h0 ex v ∧ fits ty (jm_cv h0 ex v) = true := by
  cases v with
  | int x =>
    simp only [jm_pv, Bool.or_eq_true, Bool.and_eq_true, decide_eq_true_eq] at h
    rcases h with h | ⟨h, rfl | rfl⟩
    · cases ty <;> simp [jm_tc] at h
      exact ⟨rfl, rfl⟩
    · cases ty <;> simp [jm_tc] at h
      exact ⟨rfl, rfl⟩
    · cases ty <;> simp [jm_tc] at h
      exact ⟨rfl, rfl⟩
  | long x =>
    simp only [jm_pv, decide_eq_true_eq] at h
    cases ty <;> simp [jm_tc] at h
    exact ⟨rfl, rfl⟩
  | ref x =>
    simp only [jm_pv, decide_eq_true_eq] at h
    unfold jm_cv
    dsimp only
    cases ty <;> simp [jm_tc] at h <;> split <;> exact ⟨rfl, rfl⟩
  | _ => simp [jm_pv] at h
/-- fields, statics, constants -/
def jm_d1 (e : jm_I) (pc : Nat) (L : List (Option Value)) (S : List Value) (G : jm_h) (q : Nat × Nat) : Option jm_St := match e.1 with
  | .getfield _ => if e.2.1 = 3 then (match S with
    | .ref a :: r => if e.2.2.1 = 100 then (if a = 4 then some (pc + 3, L, (if e.2.2.2.1 = 0 then .int 0 else .ref 5) :: r, G, q) else none) else (match jm_g G a with
      | some (.inr (ci, fs)) => if ci = e.2.2.1 then (match fs[e.2.2.2.1]? with
        | some v => some (pc + 3, L, v :: r, G, q)
        | none => none) else none
      | _ => none)
    | _ => none) else none
  | .putfield _ => if e.2.1 = 3 then (match S with
    | v :: .ref a :: r => (match jm_g G a with
      | some (.inr (ci, fs)) => if ci = e.2.2.1 ∧ e.2.2.2.1 % 1000 < fs.length ∧ jm_pv (e.2.2.2.1 / 1000 % 10) v = true then some (pc + 3, L, r, jm_s G a (.inr (ci, fs.set (e.2.2.2.1 % 1000) v)), q) else none
      | _ => none)
    | _ => none) else none
  | .getstatic _ => if e.2.1 = 3 then (if e.2.2.1 = 3 then some (pc + 3, L, .int 1 :: S, G, q) else if e.2.2.1 = 4 then some (pc + 3, L, .ref 6 :: S, G, q) else if e.2.2.1 < 3 then some (pc + 3, L, .ref (1 + e.2.2.1) :: S, G, q) else none) else none
  | .ldc _ => if e.2.1 = 2 then some (pc + 2, L, (if e.2.2.2.1 = 0 then .int (Int32.ofNat e.2.2.1) else .ref 4) :: S, G, q) else none
  | .ldc_w _ => if e.2.1 = 3 then some (pc + 3, L, .int (Int32.ofNat e.2.2.1) :: S, G, q) else none
  | .ldc2_w _ => if e.2.1 = 3 then some (pc + 3, L, .long (Int64.ofNat e.2.2.1) :: S, G, q) else none
  | _ => none
/-- arrays, and what is made -/
def jm_d2 (M : jm_M) (Ls : Nat) (xs : Nat → Int32) (bc bs : Nat) (e : jm_I) (pc : Nat) (L : List (Option Value)) (S : List Value) (G : jm_h) (q : Nat × Nat) : Option jm_St := match e.1 with
  | .iaload => if e.2.1 = 1 then (match S with
    | .int i :: .ref a :: r => if a < 8 then (match jm_ea Ls xs a with
        | some (kd, N, f) => if kd = 0 then (bif jm_out i N then none else some (pc + 1, L, .int (f i.toNatClampNeg) :: r, G, q)) else none
        | none => none)
      else (match jm_g G a with
        | some (.inl (kd, N, .inl f)) => if kd = 0 then (bif jm_out i N then none else some (pc + 1, L, .int (f.getD i.toNatClampNeg 0) :: r, G, q)) else none
        | _ => none)
    | _ => none) else none
  | .baload => if e.2.1 = 1 then (match S with
    | .int i :: .ref a :: r => if a < 8 then (match jm_ea Ls xs a with
        | some (kd, N, f) => if kd = 1 then (bif jm_out i N then none else some (pc + 1, L, .int (f i.toNatClampNeg) :: r, G, q)) else none
        | none => none)
      else (match jm_g G a with
        | some (.inl (kd, N, .inl f)) => if kd = 1 ∨ kd = 2 then (bif jm_out i N then none else some (pc + 1, L, .int (f.getD i.toNatClampNeg 0) :: r, G, q)) else none
        | _ => none)
    | _ => none) else none
  | .laload => if e.2.1 = 1 then (match S with
    | .int i :: .ref a :: r => (match jm_g G a with
        | some (.inl (kd, N, .inr f)) => if kd = 3 then (bif jm_out i N then none else some (pc + 1, L, .long (f.getD i.toNatClampNeg 0) :: r, G, q)) else none
        | _ => none)
    | _ => none) else none
  | .iastore => if e.2.1 = 1 then (match S with
    | .int x :: .int i :: .ref a :: r => (match jm_g G a with
        | some (.inl (kd, N, .inl f)) => if kd = 0 then (bif jm_out i N then none else some (pc + 1, L, r, jm_s G a (.inl (0, N, .inl (jm_upd f i.toNatClampNeg x))), q)) else none
        | _ => none)
    | _ => none) else none
  | .bastore => if e.2.1 = 1 then (match S with
    | .int x :: .int i :: .ref a :: r => (match jm_g G a with
        | some (.inl (kd, N, .inl f)) => if kd = 1 then (bif jm_out i N then none else some (pc + 1, L, r, jm_s G a (.inl (1, N, .inl (jm_upd f i.toNatClampNeg x.toInt8.toInt32))), q))
          else if kd = 2 then (bif jm_out i N then none else some (pc + 1, L, r, jm_s G a (.inl (2, N, .inl (jm_upd f i.toNatClampNeg (vp_nar .boolean x)))), q)) else none
        | _ => none)
    | _ => none) else none
  | .lastore => if e.2.1 = 1 then (match S with
    | .long x :: .int i :: .ref a :: r => (match jm_g G a with
        | some (.inl (kd, N, .inr f)) => if kd = 3 then (bif jm_out i N then none else some (pc + 1, L, r, jm_s G a (.inl (3, N, .inr (jm_updL f i.toNatClampNeg x))), q)) else none
        | _ => none)
    | _ => none) else none
  | .arraylength => if e.2.1 = 1 then (match S with
    | .ref a :: r => if a < 8 then (match jm_ea Ls xs a with
        | some (_, N, _) => some (pc + 1, L, .int (Int32.ofNat N) :: r, G, q)
        | none => none)
      else (match jm_g G a with
        | some (.inl (kd, N, _)) => if kd < 4 then some (pc + 1, L, .int (Int32.ofNat N) :: r, G, q) else none
        | _ => none)
    | _ => none) else none
  | .new _ => if e.2.1 = 3 then (match vwCl[e.2.2.1]? with
    | some d => if q.1 + 1 ≤ bc ∧ q.2 + d.2.2 ≤ bs then (match jm_new (if e.2.2.1 = 10 then 2 else 1) G (.inr (e.2.2.1, jm_df e.2.2.1)) with
        | some (k, G1) => some (pc + 3, L, .ref k :: S, G1, q.1 + 1, q.2 + d.2.2)
        | none => none) else none
    | none => none) else none
  | .newarray t => if e.2.1 = 2 then (match S with
    | .int n :: r => if jm_ak t < 4 ∧ ¬ n < 0 ∧ n.toNatClampNeg * 8 ≤ 536870912 ∧ q.1 + 1 ≤ bc ∧ q.2 + n.toNatClampNeg ≤ bs then (match jm_new (jm_sg M) G (jm_a0 (jm_ak t) n.toNatClampNeg) with
        | some (k, G1) => some (pc + 2, L, .ref k :: r, G1, q.1 + 1, q.2 + n.toNatClampNeg)
        | none => none) else none
    | _ => none) else none
  | _ => none
end
section
/-! ===== the heap's steps are followed ===== -/
section JM6
variable {p : Program} {l : Launch} {e : Env} {R : Room} {s : State} {m : MethodId} {args : Array Value} {below : List Frame} {meth : Method} {c : Code} {D : va_G} {h0 : Nat} {ex : Nat → Nat} {ka : Nat → ClassId} {Ls : Nat} {xs : Nat → Int32} {M : jm_M} {n0 : Nat} {Q : State → Prop} {i : jm_I} {pc : Nat} {L : List (Option Value)} {S : List Value} {G : jm_h} {cn sn : Nat} {st : jm_St} {YN : List MethodName}
theorem jm_ref {a : Nat} {d : jm_c} (h : jm_g G a = some d) : jm_cv h0 ex (.ref a) = .ref (h0 + jm_fi a) := by
  have := jm_g_ge h
  rw [jm_cvr (by omega), jm_g_ad h]
theorem jm_at_w {H : Heap} (hR : jm_R D h0 ex ka G H) {a : Nat} {d : jm_c} (h : jm_g G a = some d) : (jm_w h0 ex ka G)[jm_fi a]? = some (h0 + jm_fi a, jm_ce h0 ex ka d) := jm_w_at (jm_g_at hR.1 h)
theorem jm_R_set {H H1 : Heap} (hR : jm_R D h0 ex ka G H) {a : Nat} {d d1 : jm_c} (h : jm_g G a = some d) (h1 : va_P D vwCl ((jm_w h0 ex ka G).set (jm_fi a) (h0 + jm_fi a, jm_ce h0 ex ka d1)) H1) : jm_R D h0 ex ka (jm_s G a d1) H1 := by
  refine ⟨jm_s_ok hR.1 a d1, ?_⟩
  rw [← jm_w_set hR.1 h]
  exact h1
set_option maxHeartbeats 4000000 in
theorem jm_d1_ok (C0 : jm_C p s m args meth c D h0 ex ka Ls xs M n0) (hc : jm_ck YN M pc i = true) (h : jm_d1 i pc L S G (cn, sn) = some st) (k : jm_W p l e R s m args below meth c D h0 ex ka M n0 Q st) : jm_W p l e R s m args below meth c D h0 ex ka M n0 Q (pc, L, S, G, cn, sn) := by
  have hd := jm_ck_dec hc
  obtain ⟨hx, hb, hml, hown, hts, hrt, hlk, hnm, hK, hz, hX⟩ := C0
  obtain ⟨ins, n, la, lb, po⟩ := i
  unfold jm_ck at hc
  rw [Bool.and_eq_true] at hc
  obtain ⟨-, hc⟩ := hc
  intro hlen H locs ls hR hS hl
  unfold jm_d1 at h
  dsimp only at hd hc h
  split at h
  · split at h
    · rename_i hn
      subst hn
      split at h
      · rename_i a r
        dsimp only at hc
        split at h
        · rename_i h100
          rw [if_pos h100] at hc
          split at h
          · rename_i ha
            subst ha
            cases h
            by_cases hb0 : lb = 0
            · rw [if_pos hb0] at hc k
              exact vk_getf hx hb hX.2.2.2.2.2.1.2.1 hS hown (hts _ (jm_at_mem hc)) (fun _ h => h) hd (k hlen H locs ls hR hS hl)
            · rw [if_neg hb0] at hc k
              exact vk_getf hx hb hX.2.2.2.2.2.1.2.2.1 hS hown (hts _ (jm_at_mem hc)) (fun _ h => h) hd (k hlen H locs ls hR hS hl)
          · cases h
        · rename_i h100
          rw [if_neg h100] at hc
          split at h
          · rename_i ci fs hg
            split at h
            · rename_i hci
              subst hci
              split at h
              · rename_i v hv
                cases h
                split at hc
                · rename_i q hq
                  obtain ⟨C, T, N⟩ := q
                  rw [Bool.and_eq_true] at hc
                  obtain ⟨hk, hw⟩ := hc
                  show W p l e R s m args below meth c H locs cn sn Q (F0 m pc ls (jm_cv h0 ex (.ref a) :: r.map (jm_cv h0 ex)))
                  rw [jm_ref hg]
                  exact va_get hx hb hts (jm_cls hq).1 hown hK hR.2 (jm_fi a) (jm_at_w hR hg) hq lb (of_decide_eq_true hk) (hts _ (jm_at_mem hw)) (fun _ h => h) (by rw [List.getElem?_map, hv]; rfl) hd (k hlen H locs ls hR hS hl)
                · cases hc
              · cases h
            · cases h
          · cases h
      · cases h
    · cases h
  · split at h
    · rename_i hn
      subst hn
      split at h
      · rename_i v a r
        split at h
        · rename_i ci fs hg
          split at h
          · rename_i hcc
            obtain ⟨hci, hl1, hpv⟩ := hcc
            subst hci
            cases h
            dsimp only at hc
            split at hc
            · rename_i q ty hq hty
              obtain ⟨C, T, N⟩ := q
              simp only [Bool.and_eq_true] at hc
              obtain ⟨⟨⟨hk, htc⟩, hfin⟩, hw⟩ := hc
              have hk := of_decide_eq_true hk
              have htc := of_decide_eq_true htc
              obtain ⟨hin, ty', hty', hd1, hnames⟩ := jm_cls hq
              have : ty' = ty := Option.some.inj (hty'.symm.trans hty)
              subst this
              rw [← htc] at hpv
              obtain ⟨hn1, hf1⟩ := jm_pv_ok (h0 := h0) (ex := ex) hpv
              show W p l e R s m args below meth c H locs cn sn Q (F0 m pc ls (jm_cv h0 ex v :: jm_cv h0 ex (.ref a) :: r.map (jm_cv h0 ex)))
              rw [jm_ref hg]
              have hfs : (fs.map (jm_cv h0 ex)).set (lb % 1000) (jm_cv h0 ex v) = (fs.set (lb % 1000) v).map (jm_cv h0 ex) := List.map_set.symm
              have fin : ∀ (H1 : Heap) (locs1 : List Loc), va_P D vwCl ((jm_w h0 ex ka G).set (jm_fi a) (h0 + jm_fi a, .inr (ci, (fs.map (jm_cv h0 ex)).set (lb % 1000) (jm_cv h0 ex v)))) H1 → va_S (fun q => h0 ≤ q) s.heap H1 locs1 → W p l e R s m args below meth c H1 locs1 cn sn Q (F0 m (pc + 3) ls (r.map (jm_cv h0 ex))) := by
                intro H1 locs1 hP1 hS1
                rw [hfs] at hP1
                exact k (by rw [jm_s_len]; exact hlen) H1 locs1 ls (jm_R_set (d1 := .inr (ci, fs.set (lb % 1000) v)) hR hg hP1) hS1 hl
              by_cases h10 : lb / 10000 = 0
              · rw [if_pos h10] at hfin
                exact va_put hx hb hts hin ty' hd1 hnames hown hK hR.2 (jm_D h0 ex ka G) hS (jm_fi a) (jm_at_w hR hg) hq (lb % 1000) hk (hts _ (jm_at_mem hw)) (fun _ h => h) (by simpa using hfin) (hd1 _ hk) hn1 hf1 (by simpa using hl1) hd (fun H1 locs1 hP1 _ hS1 => fin H1 locs1 hP1 hS1)
              · rw [if_neg h10] at hfin
                simp only [Bool.and_eq_true] at hfin
                obtain ⟨⟨hf2, hini⟩, hdec⟩ := hfin
                exact va_putF hx hb hts hin ty' hd1 hnames hown hK hR.2 (jm_D h0 ex ka G) hS (jm_fi a) (jm_at_w hR hg) hq (lb % 1000) hk (hts _ (jm_at_mem hw)) (fun _ h => h) hf2 (by rw [hnm]; exact of_decide_eq_true hini) (of_decide_eq_true hdec) (hd1 _ hk) hn1 hf1 (by simpa using hl1) hd (fun H1 locs1 hP1 _ hS1 => fin H1 locs1 hP1 hS1)
            · cases hc
          · cases h
        · cases h
      · cases h
    · cases h
  · split at h
    · rename_i hn
      subst hn
      dsimp only at hc
      split at h
      · rename_i h3
        rw [if_pos h3] at hc
        cases h
        exact va_gets hx hb hX.2.2.2.2.1 hS hown (hts _ (jm_at_mem hc)) (fun _ h => h) hd (k hlen H locs ls hR hS hl)
      · rename_i h3
        rw [if_neg h3] at hc
        split at h
        · rename_i h4
          rw [if_pos h4] at hc
          cases h
          refine va_gets hx hb hX.2.2.2.2.2.2.2.1 hS hown (hts _ (jm_at_mem hc)) (fun _ h => h) hd (W.eq ?_ (k hlen H locs ls hR hS hl))
          show F0 m (pc + 3) ls ((if ex 7 = 0 then .null else .ref (ex 6)) :: S.map (jm_cv h0 ex)) = F0 m (pc + 3) ls (jm_cv h0 ex (.ref 6) :: S.map (jm_cv h0 ex))
          congr 2
          unfold jm_cv jm_ad
          by_cases h7 : ex 7 = 0
          · simp [h7]
          · simp [h7]
        · rename_i h4
          rw [if_neg h4] at hc
          split at h
          · rename_i hlt
            cases h
            rcases (show la = 0 ∨ la = 1 ∨ la = 2 by omega) with rfl | rfl | rfl
            · exact va_getsN hx hb hX.2.1.1 hS hown (jm_atn_use hc hX.2.2.2.2.2.2.2.2) (fun _ h => h) hd (k hlen H locs ls hR hS hl)
            · exact va_getsN hx hb hX.2.2.1.1 hS hown (jm_atn_use hc hX.2.2.2.2.2.2.2.2) (fun _ h => h) hd (k hlen H locs ls hR hS hl)
            · exact va_getsN hx hb hX.2.2.2.1.1 hS hown (jm_atn_use hc hX.2.2.2.2.2.2.2.2) (fun _ h => h) hd (k hlen H locs ls hR hS hl)
          · cases h
    · cases h
  · split at h
    · rename_i hn
      subst hn
      cases h
      dsimp only at hc
      by_cases hb0 : lb = 0
      · rw [if_pos hb0] at hc k
        exact lv_ldc hx hb hown (hts _ (jm_at_mem hc)) hd (k hlen H locs ls hR hS hl)
      · rw [if_neg hb0] at hc k
        rw [Bool.and_eq_true] at hc
        have h25 := of_decide_eq_true hc.2
        subst h25
        exact va_ldcS hx hb (by rw [← of_decide_eq_true hc.1]; exact hown) hX.2.2.2.2.2.2.1 hd (k hlen H locs ls hR hS hl)
    · cases h
  · split at h
    · rename_i hn
      subst hn
      cases h
      dsimp only at hc
      exact lv_ldcw hx hb hown (hts _ (jm_at_mem hc)) hd (k hlen H locs ls hR hS hl)
    · cases h
  · split at h
    · rename_i hn
      subst hn
      cases h
      dsimp only at hc
      exact lv_ldc2 hx hb hown (hts _ (jm_at_mem hc)) hd (k hlen H locs ls hR hS hl)
    · cases h
  · cases h
end JM6
end
section
/-! ===== arrays, and what is made: followed ===== -/
theorem wnX0 : Cond.instantiable RX0 1 ∈ jm_tbl ∧ Cond.initialized RX0 ∈ jm_tbl := ⟨jm_tbl_mem (by decide +kernel) (by decide +kernel), jm_tbl_mem (by decide +kernel) (by decide +kernel)⟩
theorem wnX1 : Cond.instantiable RX1 12 ∈ jm_tbl ∧ Cond.initialized RX1 ∈ jm_tbl := ⟨jm_tbl_mem (by decide +kernel) (by decide +kernel), jm_tbl_mem (by decide +kernel) (by decide +kernel)⟩
theorem wnX2 : Cond.instantiable RX2 2 ∈ jm_tbl ∧ Cond.initialized RX2 ∈ jm_tbl := ⟨jm_tbl_mem (by decide +kernel) (by decide +kernel), jm_tbl_mem (by decide +kernel) (by decide +kernel)⟩
theorem wnX3 : Cond.instantiable RX3 4 ∈ jm_tbl ∧ Cond.initialized RX3 ∈ jm_tbl := ⟨jm_tbl_mem (by decide +kernel) (by decide +kernel), jm_tbl_mem (by decide +kernel) (by decide +kernel)⟩
theorem wnX4 : Cond.instantiable RX4 10 ∈ jm_tbl ∧ Cond.initialized RX4 ∈ jm_tbl := ⟨jm_tbl_mem (by decide +kernel) (by decide +kernel), jm_tbl_mem (by decide +kernel) (by decide +kernel)⟩
theorem wnX5 : Cond.instantiable RX5 15 ∈ jm_tbl ∧ Cond.initialized RX5 ∈ jm_tbl := ⟨jm_tbl_mem (by decide +kernel) (by decide +kernel), jm_tbl_mem (by decide +kernel) (by decide +kernel)⟩
theorem wnX6 : Cond.instantiable RX6 4 ∈ jm_tbl ∧ Cond.initialized RX6 ∈ jm_tbl := ⟨jm_tbl_mem (by decide +kernel) (by decide +kernel), jm_tbl_mem (by decide +kernel) (by decide +kernel)⟩
theorem wnX7 : Cond.instantiable RX7 3 ∈ jm_tbl ∧ Cond.initialized RX7 ∈ jm_tbl := ⟨jm_tbl_mem (by decide +kernel) (by decide +kernel), jm_tbl_mem (by decide +kernel) (by decide +kernel)⟩
theorem wnX8 : Cond.instantiable RX8 3 ∈ jm_tbl ∧ Cond.initialized RX8 ∈ jm_tbl := ⟨jm_tbl_mem (by decide +kernel) (by decide +kernel), jm_tbl_mem (by decide +kernel) (by decide +kernel)⟩
theorem wnX9 : Cond.instantiable RX9 15 ∈ jm_tbl ∧ Cond.initialized RX9 ∈ jm_tbl := ⟨jm_tbl_mem (by decide +kernel) (by decide +kernel), jm_tbl_mem (by decide +kernel) (by decide +kernel)⟩
theorem wnX10 : Cond.instantiable RX10 69 ∈ jm_tbl ∧ Cond.initialized RX10 ∈ jm_tbl := ⟨jm_tbl_mem (by decide +kernel) (by decide +kernel), jm_tbl_mem (by decide +kernel) (by decide +kernel)⟩
theorem jm_cls2 {ci N : Nat} {C : String} {T : u_T} (h : vwCl[ci]? = some (C, T, N)) : Cond.instantiable C N ∈ jm_tbl ∧ Cond.initialized C ∈ jm_tbl := by
  match ci, h with
  | 0, h => cases h; exact wnX0
  | 1, h => cases h; exact wnX1
  | 2, h => cases h; exact wnX2
  | 3, h => cases h; exact wnX3
  | 4, h => cases h; exact wnX4
  | 5, h => cases h; exact wnX5
  | 6, h => cases h; exact wnX6
  | 7, h => cases h; exact wnX7
  | 8, h => cases h; exact wnX8
  | 9, h => cases h; exact wnX9
  | 10, h => cases h; exact wnX10
  | n + 11, h => simp [vwCl] at h
theorem jm_acl : Cond.arrayClass .int ∈ jm_tbl ∧ Cond.arrayClass .byte ∈ jm_tbl ∧ Cond.arrayClass .boolean ∈ jm_tbl ∧ Cond.arrayClass .long ∈ jm_tbl := ⟨jm_tbl_mem (by decide +kernel) (by decide +kernel), jm_tbl_mem (by decide +kernel) (by decide +kernel), jm_tbl_mem (by decide +kernel) (by decide +kernel), jm_tbl_mem (by decide +kernel) (by decide +kernel)⟩
theorem jm_ak_ty {t : ArrayType} (h : jm_ak t < 4) : newarray.typeOf t = jm_ty (jm_ak t) ∧ Cond.arrayClass (newarray.typeOf t) ∈ jm_tbl ∧ componentBytes (newarray.typeOf t) ≤ 8 := by
  cases t <;> first | (exfalso; simp [jm_ak] at h; done) | exact ⟨rfl, jm_acl.1, by decide⟩ | exact ⟨rfl, jm_acl.2.1, by decide⟩ | exact ⟨rfl, jm_acl.2.2.1, by decide⟩ | exact ⟨rfl, jm_acl.2.2.2, by decide⟩
theorem jm_ty_at {ka : Nat → ClassId} {kd : Nat} (h : kd < 4) : (jm_tys ka)[kd]? = some (ka kd, jm_ty kd) := by
  rcases (show kd = 0 ∨ kd = 1 ∨ kd = 2 ∨ kd = 3 by omega) with rfl | rfl | rfl | rfl <;> rfl
theorem jm_kind {ka : Nat → ClassId} {D : va_G} {s : State} (hK : va_K D vwCl (jm_tys ka) s) {kd : Nat} (h : kd < 4) : s.vm.findClass ("[" ++ (jm_ty kd).toString) = some (ka kd) := by
  have h1 := (hK.2 kd _ (jm_ty_at h)).2
  rcases (show kd = 0 ∨ kd = 1 ∨ kd = 2 ∨ kd = 3 by omega) with rfl | rfl | rfl | rfl <;> exact h1
theorem jm_a0_cell {h0 : Nat} {ex : Nat → Nat} {ka : Nat → ClassId} {kd n : Nat} (h : kd < 4) : ∃ a : vp_A, jm_ce h0 ex ka (jm_a0 kd n) = .inl (ka kd, a) ∧ vp_cell (ka kd) a = arrV (ka kd) n (fun _ => defaultValue (jm_ty kd)) := by
  rcases (show kd = 0 ∨ kd = 1 ∨ kd = 2 ∨ kd = 3 by omega) with rfl | rfl | rfl | rfl
  · exact ⟨(n, .inl (fun _ => 0)), rfl, rfl⟩
  · exact ⟨(n, .inl (fun _ => 0)), rfl, rfl⟩
  · exact ⟨(n, .inl (fun _ => 0)), rfl, rfl⟩
  · exact ⟨(n, .inr (.inl (fun _ => 0))), rfl, rfl⟩
theorem jm_df_at {ci N : Nat} {C : String} {T : u_T} {ty : Nat → FieldType} (hq : vwCl[ci]? = some (C, T, N)) (hty : jm_tyt[ci]? = some ty) (h0 : Nat) (ex : Nat → Nat) (j : Nat) (hj : j < N) : defaultValue (ty j) = vp_V ((jm_df ci).map (jm_cv h0 ex)) j := by
  have h1 : jm_df ci = (List.range N).map fun k => defaultValue (ty k) := by simp [jm_df, hq, hty]
  have h2 : ∀ t : FieldType, jm_cv h0 ex (defaultValue t) = defaultValue t := by intro t; cases t <;> rfl
  simp [vp_V, h1, List.getD_eq_getElem?_getD, List.getElem?_map, List.getElem?_range hj, h2]
section JM7
variable {p : Program} {l : Launch} {e : Env} {R : Room} {s : State} {m : MethodId} {args : Array Value} {below : List Frame} {meth : Method} {c : Code} {D : va_G} {h0 : Nat} {ex : Nat → Nat} {ka : Nat → ClassId} {Ls : Nat} {xs : Nat → Int32} {M : jm_M} {n0 : Nat} {Q : State → Prop} {i : jm_I} {pc : Nat} {L : List (Option Value)} {S : List Value} {G : jm_h} {cn sn : Nat} {st : jm_St} {YN : List MethodName}
/-- how many cells there are is known: as many as lay there, and those that were made -/
theorem jm_size {H : Heap} {locs : List Loc} {g : JFrame} (hz : s.heap.size = h0 + n0) (hlen : jm_len G = n0 + cn) (hR : jm_R D h0 ex ka G H) (hS : va_S (fun q => h0 ≤ q) s.heap H locs) (k : H.size = h0 + jm_len G → W p l e R s m args below meth c H locs cn sn Q g) : W p l e R s m args below meth c H locs cn sn Q g := by
  intro T hT X
  have h1 := X.heapSize
  have h2 := jm_R_low hR (by have := hS.1; omega)
  rw [hT] at h1
  exact k (by omega) T hT X
theorem jm_R_new {H H1 : Heap} {sg k : Nat} {d : jm_c} {G1 : jm_h} (hR : jm_R D h0 ex ka G H) (hn : jm_new sg G d = some (k, G1)) (hsz : H.size = h0 + jm_len G) (o1 : ∀ q, q < h0 + jm_len G → H1[q]? = H[q]?) (h1 : va_at D vwCl (h0 + jm_len G, jm_ce h0 ex ka d) H1) : jm_R D h0 ex ka G1 H1 := by
  obtain ⟨a1, a2, a3, a4⟩ := jm_new_al hR.1 hn
  refine ⟨a2, ?_⟩
  rw [jm_w_new a1]
  refine (hR.2.kept fun j q hq => ?_).app fun j q hq => ?_
  · exact o1 _ (by rw [← hsz]; exact (hR.2 j q hq).lt)
  · have hz : j < 1 := (List.getElem?_eq_some_iff.mp hq).1
    rw [show j = 0 by omega] at hq
    cases hq
    exact h1
theorem jm_S_new {H H1 : Heap} {locs : List Loc} (hS : va_S (fun q => h0 ≤ q) s.heap H locs) (hsz : H.size = h0 + jm_len G) (z1 : H1.size = h0 + jm_len G + 1) (o1 : ∀ q, q < h0 + jm_len G → H1[q]? = H[q]?) : va_S (fun q => h0 ≤ q) s.heap H1 locs :=
  ⟨Nat.le_trans hS.1 (by omega), fun x h1 h2 => (o1 x (by rw [← hsz]; exact Nat.lt_of_lt_of_le h1 hS.1)).trans (hS.2.1 x h1 h2), hS.2.2⟩
set_option maxHeartbeats 8000000 in
theorem jm_d2_ok {bc bs : Nat} (C0 : jm_C p s m args meth c D h0 ex ka Ls xs M n0) (hbc : bc ≤ R.cells) (hbs : bs ≤ R.slots) (hc : jm_ck YN M pc i = true) (h : jm_d2 M Ls xs bc bs i pc L S G (cn, sn) = some st) (k : jm_W p l e R s m args below meth c D h0 ex ka M n0 Q st) : jm_W p l e R s m args below meth c D h0 ex ka M n0 Q (pc, L, S, G, cn, sn) := by
  have hd := jm_ck_dec hc
  obtain ⟨hx, hb, hml, hown, hts, hrt, hlk, hnm, hK, hz, hX⟩ := C0
  obtain ⟨ins, n, la, lb, po⟩ := i
  unfold jm_ck at hc
  rw [Bool.and_eq_true] at hc
  obtain ⟨-, hc⟩ := hc
  intro hlen H locs ls hR hS hl
  change jm_len G = n0 + cn at hlen
  change jm_R D h0 ex ka G H at hR
  change jm_L h0 ex ls (jm_mx M) L at hl
  unfold jm_d2 at h
  dsimp only at hd hc h
  split at h
  · split at h
    · rename_i hn
      subst hn
      split at h
      · rename_i j a r
        split at h
        · rename_i ha8
          split at h
          · rename_i kd N f hea
            split at h
            · rename_i hkd
              subst hkd
              cases hout : jm_out j N with
              | true => rw [hout] at h; cases h
              | false =>
                rw [hout] at h
                cases h
                have hin := jm_out_in hout
                unfold jm_ea at hea
                split at hea
                · rename_i h0'
                  subst h0'
                  cases hea
                  exact va_sld hx hb hX.1.1 hX.1.2.1 hX.1.2.2 hS hin hd (k hlen H locs ls hR hS hl)
                · split at hea
                  · rename_i h0'
                    subst h0'
                    cases hea
                    exact va_ti hx hb hX.2.1.2 hS hin rfl hd (k hlen H locs ls hR hS hl)
                  · split at hea
                    · rename_i h0'
                      subst h0'
                      cases hea
                      exact va_ti hx hb hX.2.2.1.2 hS hin rfl hd (k hlen H locs ls hR hS hl)
                    · split at hea
                      · rename_i h0'
                        subst h0'
                        cases hea
                        exact va_ti hx hb hX.2.2.2.1.2 hS hin rfl hd (k hlen H locs ls hR hS hl)
                      · split at hea <;> cases hea
            · cases h
          · cases h
        · split at h
          · rename_i kd N f hg
            split at h
            · rename_i hkd
              subst hkd
              cases hout : jm_out j N with
              | true => rw [hout] at h; cases h
              | false =>
                rw [hout] at h
                cases h
                show W p l e R s m args below meth c H locs cn sn Q (F0 m pc ls (.int j :: jm_cv h0 ex (.ref a) :: r.map (jm_cv h0 ex)))
                rw [jm_ref hg]
                exact va_iald hx hb hK hR.2 (jm_fi a) 0 (jm_at_w hR hg) rfl (jm_out_in hout) hd (k hlen H locs ls hR hS hl)
            · cases h
          · cases h
      · cases h
    · cases h
  · split at h
    · rename_i hn
      subst hn
      split at h
      · rename_i j a r
        split at h
        · rename_i ha8
          split at h
          · rename_i kd N f hea
            split at h
            · rename_i hkd
              subst hkd
              cases hout : jm_out j N with
              | true => rw [hout] at h; cases h
              | false =>
                rw [hout] at h
                cases h
                have hin := jm_out_in hout
                unfold jm_ea at hea
                split at hea
                · cases hea
                · split at hea
                  · cases hea
                  · split at hea
                    · cases hea
                    · split at hea
                      · cases hea
                      · split at hea
                        · rename_i h0'
                          subst h0'
                          cases hea
                          exact va_tb hx hb hX.2.2.2.2.2.1.2.2.2 hS hin rfl hd (k hlen H locs ls hR hS hl)
                        · cases hea
            · cases h
          · cases h
        · split at h
          · rename_i kd N f hg
            split at h
            · rename_i hkd
              cases hout : jm_out j N with
              | true => rw [hout] at h; cases h
              | false =>
                rw [hout] at h
                cases h
                show W p l e R s m args below meth c H locs cn sn Q (F0 m pc ls (.int j :: jm_cv h0 ex (.ref a) :: r.map (jm_cv h0 ex)))
                rw [jm_ref hg]
                rcases hkd with rfl | rfl
                · exact va_bald hx hb hK hR.2 (jm_fi a) 1 (jm_at_w hR hg) rfl (jm_out_in hout) hd (k hlen H locs ls hR hS hl)
                · exact va_zald hx hb hK hR.2 (jm_fi a) 2 (jm_at_w hR hg) rfl (jm_out_in hout) hd (k hlen H locs ls hR hS hl)
            · cases h
          · cases h
      · cases h
    · cases h
  · split at h
    · rename_i hn
      subst hn
      split at h
      · rename_i j a r
        split at h
        · rename_i kd N f hg
          split at h
          · rename_i hkd
            subst hkd
            cases hout : jm_out j N with
            | true => rw [hout] at h; cases h
            | false =>
              rw [hout] at h
              cases h
              show W p l e R s m args below meth c H locs cn sn Q (F0 m pc ls (.int j :: jm_cv h0 ex (.ref a) :: r.map (jm_cv h0 ex)))
              rw [jm_ref hg]
              exact va_lald hx hb hK hR.2 (jm_fi a) 3 (jm_at_w hR hg) rfl (jm_out_in hout) hd (k hlen H locs ls hR hS hl)
          · cases h
        · cases h
      · cases h
    · cases h
  · split at h
    · rename_i hn
      subst hn
      split at h
      · rename_i x j a r
        split at h
        · rename_i kd N f hg
          split at h
          · rename_i hkd
            subst hkd
            cases hout : jm_out j N with
            | true => rw [hout] at h; cases h
            | false =>
              rw [hout] at h
              cases h
              show W p l e R s m args below meth c H locs cn sn Q (F0 m pc ls (.int x :: .int j :: jm_cv h0 ex (.ref a) :: r.map (jm_cv h0 ex)))
              rw [jm_ref hg]
              refine va_iast hx hb hK hR.2 (jm_D h0 ex ka G) hS (jm_fi a) 0 (jm_at_w hR hg) rfl (jm_out_in hout) hd (fun H1 locs1 hP1 _ hS1 => ?_)
              rw [jm_upd_eq] at hP1
              exact k (by rw [jm_s_len]; exact hlen) H1 locs1 ls (jm_R_set (d1 := .inl (0, N, .inl (jm_upd f j.toNatClampNeg x))) hR hg hP1) hS1 hl
          · cases h
        · cases h
      · cases h
    · cases h
  · split at h
    · rename_i hn
      subst hn
      split at h
      · rename_i x j a r
        split at h
        · rename_i kd N f hg
          split at h
          · rename_i hkd
            subst hkd
            cases hout : jm_out j N with
            | true => rw [hout] at h; cases h
            | false =>
              rw [hout] at h
              cases h
              show W p l e R s m args below meth c H locs cn sn Q (F0 m pc ls (.int x :: .int j :: jm_cv h0 ex (.ref a) :: r.map (jm_cv h0 ex)))
              rw [jm_ref hg]
              refine va_bast hx hb hK hR.2 (jm_D h0 ex ka G) hS (jm_fi a) 1 (jm_at_w hR hg) rfl (jm_out_in hout) hd (fun H1 locs1 hP1 _ hS1 => ?_)
              rw [jm_upd_eq, vp_nar_byte] at hP1
              exact k (by rw [jm_s_len]; exact hlen) H1 locs1 ls (jm_R_set (d1 := .inl (1, N, .inl (jm_upd f j.toNatClampNeg x.toInt8.toInt32))) hR hg hP1) hS1 hl
          · split at h
            · rename_i hkd
              subst hkd
              cases hout : jm_out j N with
              | true => rw [hout] at h; cases h
              | false =>
                rw [hout] at h
                cases h
                show W p l e R s m args below meth c H locs cn sn Q (F0 m pc ls (.int x :: .int j :: jm_cv h0 ex (.ref a) :: r.map (jm_cv h0 ex)))
                rw [jm_ref hg]
                refine va_zast hx hb hK hR.2 (jm_D h0 ex ka G) hS (jm_fi a) 2 (jm_at_w hR hg) rfl (jm_out_in hout) hd (fun H1 locs1 hP1 _ hS1 => ?_)
                rw [jm_upd_eq] at hP1
                exact k (by rw [jm_s_len]; exact hlen) H1 locs1 ls (jm_R_set (d1 := .inl (2, N, .inl (jm_upd f j.toNatClampNeg (vp_nar .boolean x)))) hR hg hP1) hS1 hl
            · cases h
        · cases h
      · cases h
    · cases h
  · split at h
    · rename_i hn
      subst hn
      split at h
      · rename_i x j a r
        split at h
        · rename_i kd N f hg
          split at h
          · rename_i hkd
            subst hkd
            cases hout : jm_out j N with
            | true => rw [hout] at h; cases h
            | false =>
              rw [hout] at h
              cases h
              show W p l e R s m args below meth c H locs cn sn Q (F0 m pc ls (.long x :: .int j :: jm_cv h0 ex (.ref a) :: r.map (jm_cv h0 ex)))
              rw [jm_ref hg]
              refine va_last hx hb hK hR.2 (jm_D h0 ex ka G) hS (jm_fi a) 3 (jm_at_w hR hg) rfl (jm_out_in hout) hd (fun H1 locs1 hP1 _ hS1 => ?_)
              rw [jm_updL_eq] at hP1
              exact k (by rw [jm_s_len]; exact hlen) H1 locs1 ls (jm_R_set (d1 := .inl (3, N, .inr (jm_updL f j.toNatClampNeg x))) hR hg hP1) hS1 hl
          · cases h
        · cases h
      · cases h
    · cases h
  · split at h
    · rename_i hn
      subst hn
      split at h
      · rename_i a r
        split at h
        · rename_i ha8
          split at h
          · rename_i kd N f hea
            cases h
            unfold jm_ea at hea
            split at hea
            · rename_i h0'
              subst h0'
              cases hea
              exact va_slen hx hb hX.1.1 hX.1.2.1 hX.1.2.2 hS hd (k hlen H locs ls hR hS hl)
            · split at hea
              · rename_i h0'
                subst h0'
                cases hea
                exact va_tlen hx hb hX.2.1.2 hS rfl hd (k hlen H locs ls hR hS hl)
              · split at hea
                · rename_i h0'
                  subst h0'
                  cases hea
                  exact va_tlen hx hb hX.2.2.1.2 hS rfl hd (k hlen H locs ls hR hS hl)
                · split at hea
                  · rename_i h0'
                    subst h0'
                    cases hea
                    exact va_tlen hx hb hX.2.2.2.1.2 hS rfl hd (k hlen H locs ls hR hS hl)
                  · split at hea
                    · rename_i h0'
                      subst h0'
                      cases hea
                      exact va_tlen hx hb hX.2.2.2.2.2.1.2.2.2 hS rfl hd (k hlen H locs ls hR hS hl)
                    · cases hea
          · cases h
        · split at h
          · rename_i kd N y hg
            split at h
            · rename_i hkd
              cases h
              show W p l e R s m args below meth c H locs cn sn Q (F0 m pc ls (jm_cv h0 ex (.ref a) :: r.map (jm_cv h0 ex)))
              rw [jm_ref hg]
              obtain ⟨y', hy'⟩ : ∃ y', jm_ce h0 ex ka (.inl (kd, N, y)) = .inl (ka kd, N, y') := by
                cases y with
                | inl f => exact ⟨_, rfl⟩
                | inr f => exact ⟨_, rfl⟩
              have he : (jm_w h0 ex ka G)[jm_fi a]? = some (h0 + jm_fi a, .inl (ka kd, N, y')) := by rw [jm_at_w hR hg, hy']
              exact va_alen hx hb hK hR.2 (jm_fi a) kd he (jm_ty_at hkd) rfl hd (k hlen H locs ls hR hS hl)
            · cases h
          · cases h
      · cases h
    · cases h
  · split at h
    · rename_i hn
      subst hn
      split at h
      · rename_i d hq
        obtain ⟨C, T, N⟩ := d
        split at h
        · rename_i hroom
          split at h
          · rename_i kk G1 hnew
            cases h
            rw [hq] at hc
            dsimp only at hc hroom
            show W p l e R s m args below meth c H locs cn sn Q (F0 m pc ls (S.map (jm_cv h0 ex)))
            obtain ⟨a1, a2, a3, a4⟩ := jm_new_al hR.1 hnew
            obtain ⟨hin, ty, hty, hd1, -⟩ := jm_cls hq
            have hKn := hK.1 la _ hq
            refine jm_size hz hlen hR hS (fun hsz => ?_)
            refine W.newcK hx hb hown (hts _ (jm_at_mem hc)) (hts _ (jm_cls2 hq).1) (hts _ (jm_cls2 hq).2) rfl hd (by omega) (by omega) hKn.2.1 hsz (fun H1 kC hkC e1 z1 o1 => ?_)
            refine W.eq ?_ (k (show jm_len G1 = n0 + (cn + 1) by rw [jm_new_len hR.1 hnew]; omega) H1 locs ls (jm_R_new hR hnew hsz o1 ⟨_, hq, (u_born ty hts hin hKn hkC e1 hd1).to (jm_df_at hq hty h0 ex)⟩) (jm_S_new hS hsz z1 o1) hl)
            show F0 m (pc + 3) ls (.ref (h0 + jm_len G) :: S.map (jm_cv h0 ex)) = F0 m (pc + 3) ls (jm_cv h0 ex (.ref kk) :: S.map (jm_cv h0 ex))
            rw [jm_cvr (by omega), jm_ad, if_neg (by omega), a4]
          · cases h
        · cases h
      · cases h
    · cases h
  · split at h
    · rename_i t hn
      subst hn
      split at h
      · rename_i nn r
        split at h
        · rename_i hroom
          obtain ⟨hk4, hneg, hbig, hr1, hr2⟩ := hroom
          split at h
          · rename_i kk G1 hnew
            cases h
            have hr1 : cn + 1 ≤ bc := hr1
            have hr2 : sn + nn.toNatClampNeg ≤ bs := hr2
            show W p l e R s m args below meth c H locs cn sn Q (F0 m pc ls (.int nn :: r.map (jm_cv h0 ex)))
            obtain ⟨a1, a2, a3, a4⟩ := jm_new_al hR.1 hnew
            obtain ⟨hty, harr, hcb⟩ := jm_ak_ty hk4
            refine jm_size hz hlen hR hS (fun hsz => ?_)
            refine va_newaK hx hb (hts _ harr) rfl hd rfl hneg rfl (Nat.le_trans (Nat.mul_le_mul_left _ hcb) hbig) (by omega) (by omega) hsz (fun H1 cA e1 z1 o1 hAr hNm => ?_)
            have hcA : cA = ka (jm_ak t) := by
              have h1 := jm_kind hK hk4
              rw [← hty] at h1
              exact Option.some.inj (hNm.symm.trans h1)
            subst hcA
            obtain ⟨av, hav, hcell⟩ := jm_a0_cell (h0 := h0) (ex := ex) (ka := ka) (n := nn.toNatClampNeg) hk4
            refine W.eq ?_ (k (show jm_len G1 = n0 + (cn + 1) by rw [jm_new_len hR.1 hnew]; omega) H1 locs ls (jm_R_new hR hnew hsz o1 (by rw [hav]; show H1[h0 + jm_len G]? = some (vp_cell _ _); rw [hcell, ← hty]; exact e1)) (jm_S_new hS hsz z1 o1) hl)
            show F0 m (pc + 2) ls (.ref (h0 + jm_len G) :: r.map (jm_cv h0 ex)) = F0 m (pc + 2) ls (jm_cv h0 ex (.ref kk) :: r.map (jm_cv h0 ex))
            rw [jm_cvr (by omega), jm_ad, if_neg (by omega), a4]
          · cases h
        · cases h
      · cases h
    · cases h
  · cases h
end JM7
end
section
/-! ===== methods, their rows checked; contracts; calls and returns ===== -/
noncomputable def jm_ock (YN : List MethodName) (M : jm_M) (pc : Nat) (o : Option jm_I) : Bool := match o with
  | none => true
  | some e => jm_ck YN M pc e
noncomputable def jm_rck (YN : List MethodName) (M : jm_M) : Nat → List (Option jm_I) → Bool
  | _, [] => true
  | pc, o :: r => jm_ock YN M pc o && jm_rck YN M (pc + 1) r
noncomputable def jm_tck (YN : List MethodName) (M : jm_M) : Nat → List (List (Option jm_I)) → Bool
  | _, [] => true
  | b, r :: t => jm_rck YN M b r && jm_tck YN M (b + 16) t
theorem jm_rck_at {YN : List MethodName} {M : jm_M} : ∀ {r : List (Option jm_I)} {b j : Nat} {e : jm_I}, jm_rck YN M b r = true → r[j]? = some (some e) → jm_ck YN M (b + j) e = true
  | [], b, j, e, _, h => by simp at h
  | o :: r, b, j, e, hc, h => by
    rw [jm_rck, Bool.and_eq_true] at hc
    cases j with
    | zero =>
      simp at h
      subst h
      exact hc.1
    | succ j =>
      have := jm_rck_at hc.2 (j := j) (e := e) (by simpa using h)
      rwa [show b + 1 + j = b + (j + 1) by omega] at this
theorem jm_tck_at {YN : List MethodName} {M : jm_M} : ∀ {t : List (List (Option jm_I))} {b i : Nat} {r : List (Option jm_I)}, jm_tck YN M b t = true → t[i]? = some r → jm_rck YN M (b + 16 * i) r = true
  | [], b, i, r, _, h => by simp at h
  | q :: t, b, i, r, hc, h => by
    rw [jm_tck, Bool.and_eq_true] at hc
    cases i with
    | zero =>
      simp at h
      subst h
      exact hc.1
    | succ i =>
      have := jm_tck_at hc.2 (i := i) (r := r) (by simpa using h)
      rwa [show b + 16 + 16 * i = b + 16 * (i + 1) by omega] at this
theorem jm_in_ck {YN : List MethodName} {M : jm_M} {pc : Nat} {e : jm_I} (hc : jm_tck YN M 0 (jm_tb M) = true) (h : jm_in M pc = some e) : jm_ck YN M pc e = true := by
  unfold jm_in at h
  cases hq : (jm_tb M)[pc / 16]? with
  | none => rw [hq] at h; cases h
  | some r =>
    rw [hq] at h
    have h1 : r[pc % 16]? = some (some e) := by
      cases hz : r[pc % 16]? with
      | none => simp [hz] at h
      | some o => simp [hz] at h; rw [h]
    have := jm_rck_at (jm_tck_at hc hq) h1
    rwa [show 0 + 16 * (pc / 16) + pc % 16 = pc by omega] at this
/-- all that is asked of a method's row -/
def jm_ok (YN : List MethodName) (M : jm_M) : Prop :=
  Cond.code (jm_y M) (jm_b M) (jm_mx M) (jm_rt M) ∈ jm_tbl ∧ Cond.initialized (jm_y M).cls ∈ jm_tbl ∧ plainFor (jm_y M) = true ∧
  ((jm_y M).cls ≠ "java/lang/invoke/MethodHandle" ∧ (jm_y M).cls ≠ "java/lang/invoke/VarHandle") ∧ (parseMethodDescriptor (jm_y M).desc).map (fun d => d.parameters.length) = some (jm_na M) ∧ jm_mx M ≤ 45 ∧
  (jm_kd M = 0 → Cond.static (jm_y M) ∈ jm_tbl) ∧
  (jm_kd M = 1 → Cond.instanceMethod (jm_y M) ∈ jm_tbl ∧ Cond.selects (jm_y M).cls (jm_y M) (jm_y M) ∈ jm_tbl ∧ ((jm_rc M = 100 ∧ (jm_y M).cls = "java/lang/String") ∨ (vwCl[jm_rc M]?).map (fun q => q.1) = some (jm_y M).cls)) ∧
  (jm_kd M = 2 → Cond.instanceMethod (jm_y M) ∈ jm_tbl ∧ (jm_y M).name = "<init>" ∧ jm_rt M = none) ∧
  jm_tck YN M 0 (jm_tb M) = true
def jm_room (d mc ms : Nat) : Room := { frames := d, cells := mc, slots := ms, locals := 64 * d }
def jm_Pc (D : va_G) (h0 : Nat) (ex : Nat → Nat) (ka : Nat → ClassId) (Ls : Nat) (xs : Nat → Int32) (As : List Value) (G : jm_h) : Array Value → State → Prop := fun v U =>
  v = (As.map (jm_cv h0 ex)).toArray ∧ U.heap.size = h0 + jm_len G ∧ jm_R D h0 ex ka G U.heap ∧ va_K D vwCl (jm_tys ka) U ∧ jm_X h0 ex Ls xs U
def jm_Qc (D : va_G) (h0 : Nat) (ex : Nat → Nat) (ka : Nat → ClassId) (mc : Nat) (G : jm_h) (Post : Option Value → jm_h → Prop) : Array Value → State → Outcome → State → Prop := fun _ st o t =>
  (∃ (v : Option Value) (G1 : jm_h), Post v G1 ∧ jm_len G1 = jm_len G + mc ∧ o = .returned (v.map (jm_cv h0 ex)) ∧ jm_R D h0 ex ka G1 t.heap) ∧ va_F (fun q => h0 ≤ q) st t
/-- A CONTRACT: from the cells G and the arguments As the method returns, with an answer and cells that Post says; d frames are enough; mc cells of ms slots are made -/
def jm_T (Ls : Nat) (xs : Nat → Int32) (d : Nat) (M : jm_M) (As : List Value) (G : jm_h) (mc ms : Nat) (Post : Option Value → jm_h → Prop) : Prop :=
  ∀ (l : Launch) (D : va_G) (h0 : Nat) (ex : Nat → Nat) (ka : Nat → ClassId), Met l (jm_y M) (Cond.code (jm_y M) (jm_b M) (jm_mx M) (jm_rt M) :: jm_tbl) (jm_room d mc ms) (jm_Pc D h0 ex ka Ls xs As G) (jm_Qc D h0 ex ka mc G Post) mc ms (fun q => h0 ≤ q)
def jm_e1 : List Value → List (Option Value)
  | [] => []
  | v :: r => if v.category = 2 then some v :: none :: jm_e1 r else some v :: jm_e1 r
def jm_ent (mx : Nat) (As : List Value) : List (Option Value) := jm_e1 As ++ List.replicate (mx - (jm_e1 As).length) none
theorem jm_lv_none {h0 : Nat} {ex : Nat → Nat} : ∀ (n i : Nat), jm_lv h0 ex i (List.replicate n none) = []
  | 0, _ => rfl
  | n + 1, i => by rw [List.replicate_succ, jm_lv]; exact jm_lv_none n (i + 1)
theorem jm_e1_lv {h0 : Nat} {ex : Nat → Nat} : ∀ (As : List Value) (n i : Nat), jm_lv h0 ex i (jm_e1 As ++ List.replicate n none) = lv_args i (As.map (jm_cv h0 ex))
  | [], n, i => jm_lv_none n i
  | v :: r, n, i => by
    rw [jm_e1, List.map_cons, lv_args, jm_cv_cat]
    by_cases h : v.category = 2
    · rw [if_pos h, if_pos h]
      show (i, jm_cv h0 ex v) :: jm_lv h0 ex (i + 1 + 1) (jm_e1 r ++ List.replicate n none) = _
      rw [jm_e1_lv r n]
    · rw [if_neg h, if_neg h]
      show (i, jm_cv h0 ex v) :: jm_lv h0 ex (i + 1) (jm_e1 r ++ List.replicate n none) = _
      rw [jm_e1_lv r n]
theorem jm_e1_len {h0 : Nat} {ex : Nat → Nat} : ∀ As : List Value, (lg_sl (As.map (jm_cv h0 ex))).length = (jm_e1 As).length
  | [] => rfl
  | v :: r => by
    have ih := jm_e1_len (h0 := h0) (ex := ex) r
    simp only [lg_sl, List.map_cons, List.flatMap_cons, jm_cv_cat, jm_e1] at ih ⊢
    by_cases h : v.category = 2
    · simp [h] at ih ⊢
      exact ih
    · simp [h] at ih ⊢
      exact ih
theorem jm_entry {m : MethodId} {mx : Nat} {h0 : Nat} {ex : Nat → Nat} (As : List Value) (h : (jm_e1 As).length ≤ mx) : ∃ ls : Array Slot, entryFrame m (As.map (jm_cv h0 ex)).toArray mx = F0 m 0 ls [] ∧ jm_L h0 ex ls mx (jm_ent mx As) := by
  refine ⟨_, lg_entry_eq m (As.map (jm_cv h0 ex)) mx, ?_⟩
  have h1 := lv_entry (As.map (jm_cv h0 ex)) (n := mx) (by rw [jm_e1_len]; exact h)
  unfold jm_L jm_ent
  rw [jm_e1_lv]
  exact h1
theorem jm_ofW {l : Launch} {y : MethodName} {ws ws' : List Cond} {rm : Room} {Pc : Array Value → State → Prop} {Qc : Array Value → State → Outcome → State → Prop} {mc ms : Nat} {free : Addr → Prop} {cc : ByteArray} {maxL : Nat} {ret : Option FieldType}
    (hy : plainFor y = true) (hw : ws = Cond.code y cc maxL ret :: ws')
    (body : ∀ p e s m args below meth c s₁, BodyLoose p l y (headSpec ws rm) cc maxL ret e s m args below meth c s₁ → c.maxLocals = maxL → Pc args s →
      W p l e (headSpec ws rm).room s m args below meth c s.heap [] 0 0 (MQ below Qc args s mc ms free) (entryFrame m args maxL)) : Met l y ws rm Pc Qc mc ms free := by
  refine MetFree.of_bodySF (code := cc) (maxLocals := maxL) (ret := ret) hy ?_ ?_
  · intro args s m h hn
    obtain ⟨meth, c, h1, h2, h3, h4, h5, h6, -, -⟩ := Cond.code_spec hn (atoms_spec (ws := ws) h _ (by rw [hw]; exact List.mem_cons_self))
    exact ⟨meth, c, h1, h2, h3, h4, h5, h6⟩
  · intro p e s m args below meth c s₁ B hml hP _
    obtain ⟨t, st, o, r1, r2, r3⟩ := body p e s m args below meth c s₁ B hml hP s₁ (by rw [B.state]; rfl) (Stand.of_body B)
    exact ⟨t, o, st, r1, r2, r3⟩
section JM8
variable {p : Program} {l : Launch} {e : Env} {R : Room} {s : State} {m : MethodId} {args : Array Value} {below : List Frame} {meth : Method} {c : Code} {D : va_G} {h0 : Nat} {ex : Nat → Nat} {ka : Nat → ClassId} {Ls : Nat} {xs : Nat → Int32} {M : jm_M} {n0 : Nat} {Q : State → Prop} {i : jm_I} {pc : Nat} {L : List (Option Value)} {S : List Value} {G : jm_h} {cn sn : Nat} {st : jm_St} {YN : List MethodName}
set_option maxHeartbeats 4000000 in
theorem jm_T_intro {d mc ms : Nat} {As : List Value} {Post : Option Value → jm_h → Prop} (hok : jm_ok YN M) (hAs : (jm_e1 As).length ≤ jm_mx M)
    (body : ∀ (p : Program) (l : Launch) (e : Env) (s : State) (m : MethodId) (args : Array Value) (below : List Frame) (meth : Method) (c : Code) (D : va_G) (h0 : Nat) (ex : Nat → Nat) (ka : Nat → ClassId), jm_C p s m args meth c D h0 ex ka Ls xs M (jm_len G) →
      jm_W p l e (jm_room d mc ms) s m args below meth c D h0 ex ka M (jm_len G) (MQ below (jm_Qc D h0 ex ka mc G Post) args s mc ms (fun q => h0 ≤ q)) (0, jm_ent (jm_mx M) As, [], G, 0, 0)) : jm_T Ls xs d M As G mc ms Post := by
  intro l D h0 ex ka
  refine jm_ofW (cc := jm_b M) (maxL := jm_mx M) (ret := jm_rt M) hok.2.2.1 rfl ?_
  intro p e s m args below meth c s₁ B hml hv
  obtain ⟨rfl, hsz, hR, hK, hX⟩ := hv
  have hts := atoms_spec (ws := Cond.code (jm_y M) (jm_b M) (jm_mx M) (jm_rt M) :: jm_tbl) B.pre
  obtain ⟨ls, he, hl⟩ := jm_entry (m := m) (h0 := h0) (ex := ex) As hAs
  rw [he]
  exact body p l e s m _ below meth c D h0 ex ka ⟨B.exec, B.bytes, hml, findClass_of_methodNamed B.named, fun w hw => hts w (List.mem_cons_of_mem _ hw), B.returns, B.notSynchronized, (name_of_methodNamed B.named B.method).1, hK, hsz, hX⟩ rfl s.heap [] ls hR va_S.rf hl
/-- what a method answers, if it returns here -/
def jm_rf (M : jm_M) (e : jm_I) (S : List Value) : Option (Option Value) := if e.2.1 = 1 then (match e.1, S with
  | .ireturn, [.int v] => (match jm_rt M with
    | some .int => some (some (.int v))
    | some ty => if narrow ty (.int v) = .int v then some (some (.int v)) else none
    | none => none)
  | .lreturn, [.long v] => (match jm_rt M with
    | some .long => some (some (.long v))
    | _ => none)
  | .return_, [] => (match jm_rt M with
    | none => some none
    | _ => none)
  | _, _ => none) else none
set_option maxHeartbeats 4000000 in
theorem jm_ret_ok {mc ms : Nat} {G0 : jm_h} {Post : Option Value → jm_h → Prop} {v : Option Value} (C0 : jm_C p s m args meth c D h0 ex ka Ls xs M (jm_len G0)) (hc : jm_ck YN M pc i = true) (h : jm_rf M i S = some v) (hcn : cn = mc) (hsn : sn ≤ ms) (hP : Post v G) :
    jm_W p l e R s m args below meth c D h0 ex ka M (jm_len G0) (MQ below (jm_Qc D h0 ex ka mc G0 Post) args s mc ms (fun q => h0 ≤ q)) (pc, L, S, G, cn, sn) := by
  have hd := jm_ck_dec hc
  obtain ⟨hx, hb, hml, hown, hts, hrt, hlk, hnm, hK, hz, hX⟩ := C0
  obtain ⟨ins, n, la, lb, po⟩ := i
  intro hlen H locs ls hR hS hl
  change jm_len G = jm_len G0 + cn at hlen
  change jm_R D h0 ex ka G H at hR
  subst hcn
  refine W.widen (k := cn) (n := ms) (Nat.le_refl _) hsn ?_
  unfold jm_rf at h
  dsimp only at hd h
  split at h
  · rename_i hn
    subst hn
    split at h
    · split at h
      · rename_i hr
        cases h
        exact W.iret hx hb (hrt.trans hr) (fun t ht hW => ⟨⟨_, G, hP, hlen, rfl, by rw [ht]; exact hR⟩, hS.F ht⟩) hS.2.2 hd
      · rename_i ty hr
        split at h
        · rename_i hnar
          cases h
          exact W.zret hx hb (hrt.trans hr) hnar (fun t ht hW => ⟨⟨_, G, hP, hlen, rfl, by rw [ht]; exact hR⟩, hS.F ht⟩) hS.2.2 hd
        · cases h
      · cases h
    · split at h
      · rename_i hr
        cases h
        exact W.lret hx hb (hrt.trans hr) (fun t ht hW => ⟨⟨_, G, hP, hlen, rfl, by rw [ht]; exact hR⟩, hS.F ht⟩) hS.2.2 hd
      · cases h
    · split at h
      · rename_i hr
        cases h
        exact W.vret hx hb (hrt.trans hr) (fun t ht hW => ⟨⟨_, G, hP, hlen, rfl, by rw [ht]; exact hR⟩, hS.F ht⟩) hS.2.2 hd
      · cases h
    · cases h
  · cases h
end JM8
end
section
/-! ===== calls ===== -/
/-- a call: the callee, its arguments (a receiver first), what stays on the stack -/
def jm_sp (n : Nat) (S : List Value) : List Value × List Value := ((S.take n).reverse, S.drop n)
def jm_cs (r : List Value) : Nat := (r.map fun v => v.category).sum
def jm_rok (G : jm_h) (M1 : jm_M) (b : Nat) : Bool := if jm_rc M1 = 100 then decide (b = 4) else (match jm_g G b with
  | some (.inr (ci, _)) => decide (ci = jm_rc M1)
  | _ => false)
def jm_cf (TB : List jm_M) (e : jm_I) (G : jm_h) (S : List Value) : Option (jm_M × List Value × List Value) := match e.1 with
  | .invokestatic _ => if e.2.1 = 3 ∧ e.2.2.2.1 < 2 then (match TB[e.2.2.1]? with
    | some M1 => if jm_kd M1 = 0 ∧ jm_na M1 ≤ S.length ∧ jm_cs (S.drop (jm_na M1)) ≤ 8 then some (M1, (S.take (jm_na M1)).reverse, S.drop (jm_na M1)) else none
    | none => none) else none
  | .invokevirtual _ => if e.2.1 = 3 ∧ e.2.2.2.1 < 2 then (match TB[e.2.2.1]? with
    | some M1 => if jm_kd M1 = 1 ∧ jm_na M1 ≤ S.length then (match S.drop (jm_na M1) with
      | .ref b :: r => if jm_cs r ≤ 8 ∧ jm_rok G M1 b = true then some (M1, .ref b :: (S.take (jm_na M1)).reverse, r) else none
      | _ => none) else none
    | none => none) else none
  | .invokespecial _ => if e.2.1 = 3 ∧ e.2.2.2.1 < 2 then (match TB[e.2.2.1]? with
    | some M1 => if jm_kd M1 = 2 ∧ jm_na M1 ≤ S.length then (match S.drop (jm_na M1) with
      | .ref b :: r => if jm_cs r ≤ 8 ∧ 8 ≤ b then some (M1, .ref b :: (S.take (jm_na M1)).reverse, r) else none
      | _ => none) else none
    | none => none) else none
  | _ => none
theorem jm_cs_cv (h0 : Nat) (ex : Nat → Nat) (r : List Value) : ((r.map (jm_cv h0 ex)).map fun v => v.category).sum = jm_cs r := by
  unfold jm_cs
  congr 1
  rw [List.map_map]
  apply List.map_congr_left
  intro v _
  exact jm_cv_cat h0 ex v
theorem jm_Pc_blind {D : va_G} {h0 : Nat} {ex : Nat → Nat} {ka : Nat → ClassId} {Ls : Nat} {xs : Nat → Int32} {As : List Value} {G : jm_h} : FrameBlind (jm_Pc D h0 ex ka Ls xs As G) := by
  intro a U g mk h
  obtain ⟨h1, h2, h3, h4, h5⟩ := h
  exact ⟨h1, h2, h3, va_K.moved (u := U) (U := U.calling g mk a) (Vm.Alike.refl U.vm) h4, jm_X_call h5⟩
theorem jm_goodIn (M1 : jm_M) (h : Cond.code (jm_y M1) (jm_b M1) (jm_mx M1) (jm_rt M1) ∈ jm_tbl) : GoodIn jm_tbl (Cond.code (jm_y M1) (jm_b M1) (jm_mx M1) (jm_rt M1) :: jm_tbl) := by
  intro w hw
  rcases List.mem_cons.mp hw with rfl | hw
  · exact ⟨h, jm_tbl_good h⟩
  · exact ⟨hw, jm_tbl_good hw⟩
section JM9
variable {p : Program} {l : Launch} {e : Env} {R : Room} {s : State} {m : MethodId} {args : Array Value} {below : List Frame} {meth : Method} {c : Code} {D : va_G} {h0 : Nat} {ex : Nat → Nat} {ka : Nat → ClassId} {Ls : Nat} {xs : Nat → Int32} {M : jm_M} {n0 : Nat} {Q : State → Prop} {i : jm_I} {pc : Nat} {L : List (Option Value)} {S : List Value} {G : jm_h} {cn sn : Nat} {st : jm_St} {YN : List MethodName} {TB : List jm_M}
/-- behind a call -/
theorem jm_cont {H : Heap} {locs : List Loc} {ls : Array Slot} {mc ms : Nat} {st0 rest : List Value} {a : Array Value} {Post : Option Value → jm_h → Prop}
    (hr : va_Run p l e R s m args below meth c H locs cn sn mc ms (F0 m pc ls st0) (rest.map (jm_cv h0 ex)) (jm_Qc D h0 ex ka mc G Post a) (fun q => h0 ≤ q)) (hS : va_S (fun q => h0 ≤ q) s.heap H locs) (hl : jm_L h0 ex ls (jm_mx M) L) (hlen : jm_len G = n0 + cn)
    (k : ∀ (v : Option Value) (G1 : jm_h), Post v G1 → jm_len G1 = jm_len G + mc → jm_W p l e R s m args below meth c D h0 ex ka M n0 Q (pc + 3, L, v.toList ++ rest, G1, cn + mc, sn + ms)) : W p l e R s m args below meth c H locs cn sn Q (F0 m pc ls st0) := by
  intro T hT X
  obtain ⟨v, st₀, t, T', L', e0, X', hL, e1, e2, ⟨⟨v1, G1, hP, hlen1, ho, hR1⟩, hz, hk⟩, go⟩ := hr T hT X
  cases ho
  rw [e0] at hz hk
  have hS1 : va_S (fun q => h0 ≤ q) s.heap T'.heap (locs ++ L') := by
    rw [e1]
    refine ⟨Nat.le_trans hS.1 hz, fun q h1 h2 => (hk q (Nat.lt_of_lt_of_le h1 hS.1) h2).trans (hS.2.1 q h1 h2), fun q hq => ?_⟩
    rcases List.mem_append.mp hq with h | h
    · exact hS.2.2 q h
    · exact hL q h
  obtain ⟨t2, a1, b1⟩ := k v1 G1 hP hlen1 (show jm_len G1 = n0 + (cn + mc) by omega) T'.heap (locs ++ L') ls (by rw [e1]; exact hR1) hS1 hl T' rfl X'
  refine ⟨t2, go t2 ?_, b1⟩
  have : (v1.toList ++ rest).map (jm_cv h0 ex) = (v1.map (jm_cv h0 ex)).toList ++ rest.map (jm_cv h0 ex) := by cases v1 <;> simp
  dsimp only at a1
  rw [this] at a1
  exact a1
set_option maxHeartbeats 8000000 in
theorem jm_call_ok {d mc ms : Nat} {M1 : jm_M} {As rest : List Value} {Post : Option Value → jm_h → Prop} (hTB : ∀ (k : Nat) (M' : jm_M), TB[k]? = some M' → jm_ok YN M') (hYN : YN = TB.map jm_y) (C0 : jm_C p s m args meth c D h0 ex ka Ls xs M n0) (hc : jm_ck YN M pc i = true) (h : jm_cf TB i G S = some (M1, As, rest))
    (hT : jm_T Ls xs d M1 As G mc ms Post) (hfr : d + 1 ≤ R.frames) (hlo : 64 * d + 64 ≤ R.locals) (hcc : cn + mc ≤ R.cells) (hss : sn + ms ≤ R.slots)
    (k : ∀ (v : Option Value) (G1 : jm_h), Post v G1 → jm_len G1 = jm_len G + mc → jm_W p l e R s m args below meth c D h0 ex ka M n0 Q (pc + 3, L, v.toList ++ rest, G1, cn + mc, sn + ms)) : jm_W p l e R s m args below meth c D h0 ex ka M n0 Q (pc, L, S, G, cn, sn) := by
  have hd := jm_ck_dec hc
  obtain ⟨hx, hb, hml, hown, hts, hrt, hlk, hnm, hK, hz, hX⟩ := C0
  obtain ⟨ins, n, la, lb, po⟩ := i
  unfold jm_ck at hc
  rw [Bool.and_eq_true] at hc
  obtain ⟨-, hc⟩ := hc
  intro hlen H locs ls hR hS hl
  change jm_len G = n0 + cn at hlen
  change jm_R D h0 ex ka G H at hR
  change jm_L h0 ex ls (jm_mx M) L at hl
  show W p l e R s m args below meth c H locs cn sn Q (F0 m pc ls (S.map (jm_cv h0 ex)))
  refine jm_size hz hlen hR hS (fun hsz => ?_)
  have hPre : ∀ U : State, U.heap = H → s.WarmedH U.vm → jm_Pc D h0 ex ka Ls xs As G (As.map (jm_cv h0 ex)).toArray U := fun U hU hW => ⟨rfl, by rw [hU]; exact hsz, by rw [hU]; exact hR, va_K.moved hW.alike hK, jm_X_to hX hS hU hW⟩
  have fix : CallFix p m c (jm_b M) (jm_mx M) s args jm_tbl (jm_y M).cls := ⟨hx, hb, hml, hown, hts⟩
  have key : ∀ (M2 : jm_M), TB[la]? = some M2 → YN[la]? = some (jm_y M2) ∧ jm_ok YN M2 := fun M2 h2 => ⟨by rw [hYN, List.getElem?_map, h2]; rfl, hTB _ _ h2⟩
  have base : ∀ (M2 : jm_M) (idx : Nat), jm_ok YN M2 → (Cond.methodLink (jm_y M).cls idx (jm_y M2)).before args s = true → CallB R s args (jm_y M).cls idx (jm_y M2) (jm_b M2) (jm_mx M2) (jm_rt M2) (Cond.code (jm_y M2) (jm_b M2) (jm_mx M2) (jm_rt M2) :: jm_tbl) (jm_room d mc ms) mc ms (jm_na M2) := by
    intro M2 idx ok hlink
    obtain ⟨o1, o2, o3, o4, o5, o6, -⟩ := ok
    exact callB_of (jm_na M2) hts (jm_goodIn M2 o1) rfl rfl rfl (hts _ o2) hlink ⟨o4.1, o4.2, o5⟩ ⟨hfr, by show 8 + (jm_mx M2 + 11) + 64 * d ≤ R.locals; omega⟩
  have nest : ∀ (M2 : jm_M) (idx : Nat), jm_ok YN M2 → (Cond.methodLinkNest (jm_y M).cls idx (jm_y M2) "FallMarket").before args s = true → va_CN R s args (jm_y M).cls idx (jm_y M2) "FallMarket" (jm_b M2) (jm_mx M2) (jm_rt M2) (Cond.code (jm_y M2) (jm_b M2) (jm_mx M2) (jm_rt M2) :: jm_tbl) (jm_room d mc ms) mc ms (jm_na M2) := by
    intro M2 idx ok hlink
    obtain ⟨o1, o2, o3, o4, o5, o6, -⟩ := ok
    refine ⟨⟨rfl, rfl, hfr, by show 8 + (jm_mx M2 + 11) + 64 * d ≤ R.locals; omega, pay_in hts (jm_goodIn M2 o1), List.mem_cons_self⟩, hts _ o1, hts _ o2, o4, fun sig hsig => ?_, hlink⟩
    rw [hsig] at o5
    exact (Option.some.inj o5).symm
  unfold jm_cf at h
  dsimp only at hd h hc
  split at h
  · split at h
    · rename_i hn
      obtain ⟨hn, hlb⟩ := hn
      subst hn
      split at h
      · rename_i M2 hM2
        split at h
        · rename_i hcond
          obtain ⟨hkd, hna, hcs⟩ := hcond
          cases h
          obtain ⟨hy, hok⟩ := key _ hM2
          dsimp only at hc
          have hlb2 : ¬ lb = 2 := by omega
          rw [if_neg hlb2, hy] at hc
          dsimp only at hc
          have hstk : S.map (jm_cv h0 ex) = (((S.take (jm_na M1)).reverse).map (jm_cv h0 ex)).reverse ++ (S.drop (jm_na M1)).map (jm_cv h0 ex) := by rw [← List.map_reverse, List.reverse_reverse, ← List.map_append, List.take_append_drop]
          have hlenA : (((S.take (jm_na M1)).reverse).map (jm_cv h0 ex)).length = jm_na M1 := by simp; omega
          by_cases h1 : lb = 1
          · rw [if_pos h1] at hc
            exact jm_cont (va_runSN (g := F0 m pc ls (S.map (jm_cv h0 ex))) (As := ((S.take (jm_na M1)).reverse).map (jm_cv h0 ex)) (rest := (S.drop (jm_na M1)).map (jm_cv h0 ex)) fix (hT l D h0 ex ka) ⟨nest M1 _ hok (jm_atn_use hc hX.2.2.2.2.2.2.2.2), hts _ (hok.2.2.2.2.2.2.1 hkd), trivial⟩ ⟨jm_Pc_blind, hPre⟩ rfl hlenA hl.1 hstk (lv_room (by rw [jm_cs_cv]; exact hcs)) hd ⟨hcc, hss⟩) hS hl hlen k
          · rw [if_neg h1] at hc
            exact jm_cont (va_runS (g := F0 m pc ls (S.map (jm_cv h0 ex))) (As := ((S.take (jm_na M1)).reverse).map (jm_cv h0 ex)) (rest := (S.drop (jm_na M1)).map (jm_cv h0 ex)) fix (hT l D h0 ex ka) ⟨base M1 _ hok (hts _ (jm_at_mem hc)), hts _ (hok.2.2.2.2.2.2.1 hkd)⟩ ⟨jm_Pc_blind, hPre⟩ rfl hlenA hl.1 hstk (lv_room (by rw [jm_cs_cv]; exact hcs)) hd ⟨hcc, hss⟩) hS hl hlen k
        · cases h
      · cases h
    · cases h
  · split at h
    · rename_i hn
      obtain ⟨hn, hlb⟩ := hn
      subst hn
      split at h
      · rename_i M2 hM2
        split at h
        · rename_i hcond
          obtain ⟨hkd, hna⟩ := hcond
          split at h
          · rename_i b r hdrop
            split at h
            · rename_i hcond2
              obtain ⟨hcs, hrok⟩ := hcond2
              cases h
              obtain ⟨hy, hok⟩ := key _ hM2
              dsimp only at hc
              rw [hy] at hc
              dsimp only at hc
              obtain ⟨w1, w2, w3⟩ := hok.2.2.2.2.2.2.2.1 hkd
              have hb6 : ¬ b = 6 := by
                unfold jm_rok at hrok
                split at hrok
                · have h4 := of_decide_eq_true hrok
                  exact fun e => by rw [h4] at e; exact absurd e (by decide)
                · split at hrok
                  · rename_i hg
                    have h8 := jm_g_ge hg
                    exact fun e => by rw [e] at h8; exact absurd h8 (by decide)
                  · cases hrok
              have hstk : S.map (jm_cv h0 ex) = (((S.take (jm_na M1)).reverse).map (jm_cv h0 ex)).reverse ++ .ref (jm_ad h0 ex b) :: rest.map (jm_cv h0 ex) := by
                rw [← List.map_reverse, List.reverse_reverse, show Value.ref (jm_ad h0 ex b) = jm_cv h0 ex (.ref b) from (jm_cvr hb6).symm, ← List.map_cons, ← hdrop, ← List.map_append, List.take_append_drop]
              have hlenA : (((S.take (jm_na M1)).reverse).map (jm_cv h0 ex)).length = jm_na M1 := by simp; omega
              have hPre' : ∀ U : State, U.heap = H → s.WarmedH U.vm → jm_Pc D h0 ex ka Ls xs (.ref b :: (S.take (jm_na M1)).reverse) G (Value.ref (jm_ad h0 ex b) :: ((S.take (jm_na M1)).reverse).map (jm_cv h0 ex)).toArray U := by
                rw [← jm_cvr (h0 := h0) (ex := ex) hb6]
                exact hPre
              have hrecv : ∃ cellB : Cell, H[jm_ad h0 ex b]? = some cellB ∧ cellB.vm.isStatics = false ∧ s.vm.findClass (jm_y M1).cls = some cellB.cls := by
                unfold jm_rok at hrok
                by_cases h100 : jm_rc M1 = 100
                · rw [if_pos h100] at hrok
                  have hb4 := of_decide_eq_true hrok
                  subst hb4
                  rcases w3 with ⟨-, w3⟩ | w3
                  · obtain ⟨cell, c1, c2, c3, -⟩ := (hX.2.2.2.2.2.1.1).kept hS.2.1
                    exact ⟨cell, c1, c2, by rw [w3]; exact c3⟩
                  · rw [h100] at w3
                    simp [vwCl] at w3
                · rw [if_neg h100] at hrok
                  split at hrok
                  · rename_i ci fs hg
                    have hci := of_decide_eq_true hrok
                    rcases w3 with ⟨w3, -⟩ | w3
                    · exact absurd w3 h100
                    · cases hq : vwCl[jm_rc M1]? with
                      | none => rw [hq] at w3; cases w3
                      | some q =>
                        rw [hq] at w3
                        have w3 : q.1 = (jm_y M1).cls := Option.some.inj w3
                        have := va_recv (ci := ci) (q0 := jm_fi b) hK hR.2 (by rw [hci]; exact hq) (jm_at_w hR hg)
                        rw [jm_g_ad hg, ← w3]
                        exact this
                  · cases hrok
              by_cases h1 : lb = 1
              · rw [if_pos h1] at hc
                exact jm_cont (va_runVN (C := (jm_y M1).cls) (b := jm_ad h0 ex b) (g := F0 m pc ls (S.map (jm_cv h0 ex))) (As := ((S.take (jm_na M1)).reverse).map (jm_cv h0 ex)) (rest := rest.map (jm_cv h0 ex)) fix (hT l D h0 ex ka) ⟨nest M1 _ hok (jm_atn_use hc hX.2.2.2.2.2.2.2.2), hts _ w1, hts _ w2⟩ ⟨jm_Pc_blind, hrecv, hPre'⟩ rfl hlenA hl.1 hstk (lv_room (by rw [jm_cs_cv]; exact hcs)) hd ⟨hcc, hss⟩) hS hl hlen k
              · rw [if_neg h1] at hc
                exact jm_cont (va_runV (C := (jm_y M1).cls) (b := jm_ad h0 ex b) (g := F0 m pc ls (S.map (jm_cv h0 ex))) (As := ((S.take (jm_na M1)).reverse).map (jm_cv h0 ex)) (rest := rest.map (jm_cv h0 ex)) fix (hT l D h0 ex ka) ⟨base M1 _ hok (hts _ (jm_at_mem hc)), hts _ w1, hts _ w2⟩ ⟨jm_Pc_blind, hrecv, hPre'⟩ rfl hlenA hl.1 hstk (lv_room (by rw [jm_cs_cv]; exact hcs)) hd ⟨hcc, hss⟩) hS hl hlen k
            · cases h
          · cases h
        · cases h
      · cases h
    · cases h
  · split at h
    · rename_i hn
      obtain ⟨hn, hlb⟩ := hn
      subst hn
      split at h
      · rename_i M2 hM2
        split at h
        · rename_i hcond
          obtain ⟨hkd, hna⟩ := hcond
          split at h
          · rename_i b r hdrop
            split at h
            · rename_i hcs
              obtain ⟨hcs, hb8⟩ := hcs
              cases h
              have hb6 : ¬ b = 6 := fun e => by subst e; exact absurd hb8 (by decide)
              obtain ⟨hy, hok⟩ := key _ hM2
              dsimp only at hc
              have hlb2 : ¬ lb = 2 := by omega
              rw [if_neg hlb2, hy] at hc
              dsimp only at hc
              obtain ⟨w1, w2, w3⟩ := hok.2.2.2.2.2.2.2.2.1 hkd
              have hstk : S.map (jm_cv h0 ex) = (((S.take (jm_na M1)).reverse).map (jm_cv h0 ex)).reverse ++ .ref (jm_ad h0 ex b) :: rest.map (jm_cv h0 ex) := by
                rw [← List.map_reverse, List.reverse_reverse, show Value.ref (jm_ad h0 ex b) = jm_cv h0 ex (.ref b) from (jm_cvr hb6).symm, ← List.map_cons, ← hdrop, ← List.map_append, List.take_append_drop]
              have hlenA : (((S.take (jm_na M1)).reverse).map (jm_cv h0 ex)).length = jm_na M1 := by simp; omega
              have hPre' : ∀ U : State, U.heap = H → s.WarmedH U.vm → jm_Pc D h0 ex ka Ls xs (.ref b :: (S.take (jm_na M1)).reverse) G (Value.ref (jm_ad h0 ex b) :: ((S.take (jm_na M1)).reverse).map (jm_cv h0 ex)).toArray U := by
                rw [← jm_cvr (h0 := h0) (ex := ex) hb6]
                exact hPre
              by_cases h1 : lb = 1
              · rw [if_pos h1] at hc
                have hb := nest M1 _ hok (jm_atn_use hc hX.2.2.2.2.2.2.2.2)
                have hM := hT l D h0 ex ka
                rw [w3] at hb hM
                exact jm_cont (va_runIN (b := jm_ad h0 ex b) (g := F0 m pc ls (S.map (jm_cv h0 ex))) (As := ((S.take (jm_na M1)).reverse).map (jm_cv h0 ex)) (rest := rest.map (jm_cv h0 ex)) fix hM ⟨hb, w2, hts _ w1⟩ ⟨jm_Pc_blind, hPre'⟩ rfl hlenA hl.1 hstk (lv_room (by rw [jm_cs_cv]; exact hcs)) hd ⟨hcc, hss⟩) hS hl hlen k
              · rw [if_neg h1] at hc
                have hb := base M1 _ hok (hts _ (jm_at_mem hc))
                have hM := hT l D h0 ex ka
                rw [w3] at hb hM
                exact jm_cont (va_runI (b := jm_ad h0 ex b) (g := F0 m pc ls (S.map (jm_cv h0 ex))) (As := ((S.take (jm_na M1)).reverse).map (jm_cv h0 ex)) (rest := rest.map (jm_cv h0 ex)) fix hM ⟨hb, w2, hts _ w1⟩ ⟨jm_Pc_blind, hPre'⟩ rfl hlenA hl.1 hstk (lv_room (by rw [jm_cs_cv]; exact hcs)) hd ⟨hcc, hss⟩) hS hl hlen k
            · cases h
          · cases h
        · cases h
      · cases h
    · cases h
  · cases h
end JM9
end
section
/-! ===== Object's constructor, arraycopy; the whole step; runs ===== -/
def jm_cpy (f g : List Int32) (sp dp n : Nat) : List Int32 := (List.range (Nat.max (dp + n) g.length)).map fun k => bif Nat.ble dp k && Nat.ble (k + 1) (dp + n) then f.getD (sp + (k - dp)) 0 else g.getD k 0
theorem jm_cpy_eq (f g : List Int32) (sp dp n : Nat) : va_cpy (fun j => f.getD j 0) (fun j => g.getD j 0) sp dp n = fun j => (jm_cpy f g sp dp n).getD j 0 := by
  funext k
  unfold va_cpy jm_cpy
  rw [List.getD_eq_getElem?_getD, List.getElem?_map]
  by_cases hk : k < Nat.max (dp + n) g.length
  · rw [List.getElem?_range hk]
    show _ = (bif Nat.ble dp k && Nat.ble (k + 1) (dp + n) then f.getD (sp + (k - dp)) 0 else g.getD k 0)
    cases hb : Nat.ble dp k && Nat.ble (k + 1) (dp + n) with
    | true =>
      rw [Bool.and_eq_true] at hb
      have h1 := Nat.le_of_ble_eq_true hb.1
      have h2 := Nat.le_of_ble_eq_true hb.2
      rw [if_pos ⟨h1, by omega⟩]
      rfl
    | false =>
      rw [if_neg]
      · rfl
      · rintro ⟨h1, h2⟩
        rw [Nat.ble_eq_true_of_le h1, Nat.ble_eq_true_of_le (show k + 1 ≤ dp + n by omega)] at hb
        cases hb
  · have hm : dp + n ≤ k ∧ g.length ≤ k := by
      have := Nat.not_lt.mp hk
      exact ⟨Nat.le_trans (Nat.le_max_left _ _) this, Nat.le_trans (Nat.le_max_right _ _) this⟩
    rw [List.getElem?_eq_none (by simpa using Nat.not_lt.mp hk), if_neg (by omega)]
    show g.getD k 0 = 0
    rw [List.getD_eq_getElem?_getD, List.getElem?_eq_none hm.2]
    rfl
def jm_d3 (e : jm_I) (pc : Nat) (L : List (Option Value)) (S : List Value) (G : jm_h) (q : Nat × Nat) : Option jm_St := match e.1 with
  | .invokespecial _ => if e.2.1 = 3 ∧ e.2.2.2.1 = 2 then (match S with
    | .ref a :: r => if jm_cs r ≤ 8 ∧ 8 ≤ a then some (pc + 3, L, r, G, q) else none
    | _ => none) else none
  | .invokestatic _ => if e.2.1 = 3 ∧ e.2.2.2.1 = 2 then (match S with
    | .int n :: .int dp :: .ref a1 :: .int sp :: .ref a0 :: r => (match jm_g G a0, jm_g G a1 with
      | some (.inl (k0, n0, .inl f)), some (.inl (k1, n1, .inl g)) => if (k0 = 0 ∧ k1 = 0) ∧ (¬ sp < 0 ∧ ¬ dp < 0 ∧ ¬ n < 0) ∧ (sp.toNatClampNeg + n.toNatClampNeg ≤ n0 ∧ dp.toNatClampNeg + n.toNatClampNeg ≤ n1) ∧ jm_cs r ≤ 8 then some (pc + 3, L, r, jm_s G a1 (.inl (0, n1, .inl (jm_cpy f g sp.toNatClampNeg dp.toNatClampNeg n.toNatClampNeg))), q) else none
      | _, _ => none)
    | _ => none) else none
  | _ => none
theorem jm_wcopy : Cond.native arraycopyName ∈ jm_tbl ∧ Cond.static arraycopyName ∈ jm_tbl ∧ Cond.initialized "java/lang/System" ∈ jm_tbl := ⟨jm_tbl_mem (by decide +kernel) (by decide +kernel), jm_tbl_mem (by decide +kernel) (by decide +kernel), jm_tbl_mem (by decide +kernel) (by decide +kernel)⟩
theorem jm_winit : Cond.instanceMethod objectInit ∈ jm_tbl ∧ Cond.code objectInit ⟨#[0xb1]⟩ 1 none ∈ jm_tbl := ⟨jm_tbl_mem (by decide +kernel) (by decide +kernel), jm_tbl_mem (List.mem_of_getElem? (i := 120) rfl) rfl⟩
def jm_step (M : jm_M) (Ls : Nat) (xs : Nat → Int32) (bc bs : Nat) (e : jm_I) (pc : Nat) (L : List (Option Value)) (S : List Value) (G : jm_h) (q : Nat × Nat) : Option jm_St :=
  match jm_a1 e.1 e.2.1 pc L S G q with
  | some r => some r
  | none => match jm_d1 e pc L S G q with
    | some r => some r
    | none => match jm_b1 e.1 e.2.1 pc L S G q with
      | some r => some r
      | none => match jm_c1 e.1 e.2.1 pc L S G q with
        | some r => some r
        | none => match jm_a2 (jm_mx M) e.1 e.2.1 pc L S G q with
          | some r => some r
          | none => match jm_d2 M Ls xs bc bs e pc L S G q with
            | some r => some r
            | none => match jm_b2 e.1 e.2.1 pc L S G q with
              | some r => some r
              | none => jm_d3 e pc L S G q
section JM10
variable {p : Program} {l : Launch} {e : Env} {R : Room} {s : State} {m : MethodId} {args : Array Value} {below : List Frame} {meth : Method} {c : Code} {D : va_G} {h0 : Nat} {ex : Nat → Nat} {ka : Nat → ClassId} {Ls : Nat} {xs : Nat → Int32} {M : jm_M} {n0 : Nat} {Q : State → Prop} {i : jm_I} {pc : Nat} {L : List (Option Value)} {S : List Value} {G : jm_h} {cn sn : Nat} {st : jm_St} {YN : List MethodName} {TB : List jm_M}
set_option maxHeartbeats 4000000 in
theorem jm_d3_ok (C0 : jm_C p s m args meth c D h0 ex ka Ls xs M n0) (hfr : 1 ≤ R.frames) (hlo : 64 ≤ R.locals) (hc : jm_ck YN M pc i = true) (h : jm_d3 i pc L S G (cn, sn) = some st) (k : jm_W p l e R s m args below meth c D h0 ex ka M n0 Q st) : jm_W p l e R s m args below meth c D h0 ex ka M n0 Q (pc, L, S, G, cn, sn) := by
  have hd := jm_ck_dec hc
  obtain ⟨hx, hb, hml, hown, hts, hrt, hlk, hnm, hK, hz, hX⟩ := C0
  obtain ⟨ins, n, la, lb, po⟩ := i
  unfold jm_ck at hc
  rw [Bool.and_eq_true] at hc
  obtain ⟨-, hc⟩ := hc
  intro hlen H locs ls hR hS hl
  change jm_len G = n0 + cn at hlen
  change jm_R D h0 ex ka G H at hR
  change jm_L h0 ex ls (jm_mx M) L at hl
  unfold jm_d3 at h
  dsimp only at hd hc h
  split at h
  · split at h
    · rename_i hn
      obtain ⟨hn, hlb⟩ := hn
      subst hn
      split at h
      · rename_i a r
        split at h
        · rename_i hcs
          obtain ⟨hcs, ha8⟩ := hcs
          cases h
          dsimp only at hc
          rw [if_pos hlb] at hc
          show W p l e R s m args below meth c H locs cn sn Q (F0 m pc ls (jm_cv h0 ex (.ref a) :: r.map (jm_cv h0 ex)))
          rw [jm_cvr (fun e => by subst e; exact absurd ha8 (by decide))]
          have hroom := lv_room (m := m) (pc := pc) (ls := ls) (rest := .ref (jm_ad h0 ex a) :: r.map (jm_cv h0 ex)) (st := r.map (jm_cv h0 ex)) (by rw [jm_cs_cv]; exact hcs)
          exact W.objInit hx hb hown (hts _ (jm_at_mem hc)) (hts _ jm_winit.1) (hts _ jm_winit.2) rfl (by rw [hml]; exact hl.1) rfl hd hfr (by omega) (k hlen H locs ls hR hS hl)
        · cases h
      · cases h
    · cases h
  · split at h
    · rename_i hn
      obtain ⟨hn, hlb⟩ := hn
      subst hn
      split at h
      · rename_i nn dp a1 sp a0 r
        split at h
        · rename_i k0 m0 f k1 m1 g hg0 hg1
          split at h
          · rename_i hcond
            obtain ⟨⟨hk0, hk1⟩, ⟨b1, b2, b3⟩, ⟨b4, b5⟩, hcs⟩ := hcond
            subst hk0
            subst hk1
            cases h
            dsimp only at hc
            rw [if_pos hlb] at hc
            show W p l e R s m args below meth c H locs cn sn Q (F0 m pc ls (.int nn :: .int dp :: jm_cv h0 ex (.ref a1) :: .int sp :: jm_cv h0 ex (.ref a0) :: r.map (jm_cv h0 ex)))
            rw [jm_ref hg0, jm_ref hg1]
            refine va_copyi hx hb (by rw [hml]; exact hl.1.symm) hown (hts _ (jm_at_mem hc)) (hts _ jm_wcopy.1) (hts _ jm_wcopy.2.1) (hts _ jm_wcopy.2.2) hK hR.2 (jm_D h0 ex ka G) hS (jm_fi a0) (jm_fi a1) 0 0 (jm_at_w hR hg0) (jm_at_w hR hg1) rfl rfl rfl b1 b2 b3 b4 b5 (fun _ _ => rfl) hfr ?_ hd (fun H1 locs1 hP1 _ hS1 => ?_)
            · rw [jm_cs_cv]
              have : nativeFrameWords "java/lang/System" "arraycopy" 5 = 7 := by decide
              omega
            · rw [jm_cpy_eq] at hP1
              exact k (by rw [jm_s_len]; exact hlen) H1 locs1 ls (jm_R_set (d1 := .inl (0, m1, .inl (jm_cpy f g sp.toNatClampNeg dp.toNatClampNeg nn.toNatClampNeg))) hR hg1 hP1) hS1 hl
          · cases h
        · cases h
      · cases h
    · cases h
  · cases h
theorem jm_step_ok {bc bs : Nat} (C0 : jm_C p s m args meth c D h0 ex ka Ls xs M n0) (hbc : bc ≤ R.cells) (hbs : bs ≤ R.slots) (hfr : 1 ≤ R.frames) (hlo : 64 ≤ R.locals) (hc : jm_ck YN M pc i = true) (h : jm_step M Ls xs bc bs i pc L S G (cn, sn) = some st) (k : jm_W p l e R s m args below meth c D h0 ex ka M n0 Q st) : jm_W p l e R s m args below meth c D h0 ex ka M n0 Q (pc, L, S, G, cn, sn) := by
  have hd := jm_ck_dec hc
  unfold jm_step at h
  split at h
  · rename_i h1
    cases h
    exact jm_a1_ok C0 hd h1 k
  · split at h
    · rename_i h1
      cases h
      exact jm_d1_ok C0 hc h1 k
    · split at h
      · rename_i h1
        cases h
        exact jm_b1_ok C0 hd h1 k
      · split at h
        · rename_i h1
          cases h
          exact jm_c1_ok C0 hd h1 k
        · split at h
          · rename_i h1
            cases h
            exact jm_a2_ok C0 hd h1 k
          · split at h
            · rename_i h1
              cases h
              exact jm_d2_ok C0 hbc hbs hc h1 k
            · split at h
              · rename_i h1
                cases h
                exact jm_b2_ok C0 hd h1 k
              · exact jm_d3_ok C0 hfr hlo hc h k
end JM10
/-- a run from a state to the method's end: answer, cells, how many were made -/
def jm_ev (TB : List jm_M) (BG : List (Nat × Nat)) (Ls : Nat) (xs : Nat → Int32) : Nat → Nat → jm_M → Nat → Nat → Nat → List (Option Value) → List Value → jm_h → Nat → Nat → Option (Option Value × jm_h × Nat × Nat)
  | 0, _, _, _, _, _, _, _, _, _, _ => none
  | n + 1, d, M, bc, bs, pc, L, S, G, cn, sn => match jm_in M pc with
    | none => none
    | some e => match jm_step M Ls xs bc bs e pc L S G (cn, sn) with
      | some (pc', L', S', G', cn', sn') => jm_ev TB BG Ls xs n d M bc bs pc' L' S' G' cn' sn'
      | none => match jm_rf M e S with
        | some v => some (v, G, cn, sn)
        | none => match d with
          | 0 => none
          | d' + 1 => match jm_cf TB e G S, BG[e.2.2.1]? with
            | some (M1, As, rest), some (mc, ms) => if (jm_e1 As).length ≤ jm_mx M1 ∧ cn + mc ≤ bc ∧ sn + ms ≤ bs then (match jm_ev TB BG Ls xs n d' M1 mc ms 0 (jm_ent (jm_mx M1) As) [] G 0 0 with
              | some (v, G1, c1, s1) => if c1 = mc ∧ s1 ≤ ms then jm_ev TB BG Ls xs n d M bc bs (pc + 3) L (v.toList ++ rest) G1 (cn + mc) (sn + ms) else none
              | none => none) else none
            | _, _ => none
set_option maxHeartbeats 4000000 in
theorem jm_ev_ok {TB : List jm_M} {YN : List MethodName} {BG : List (Nat × Nat)} {Ls : Nat} {xs : Nat → Int32} (hTB : ∀ (k : Nat) (M' : jm_M), TB[k]? = some M' → jm_ok YN M') (hYN : YN = TB.map jm_y) :
    ∀ (n d : Nat) (M : jm_M) (bc bs pc : Nat) (L : List (Option Value)) (S : List Value) (G : jm_h) (cn sn : Nat) (v : Option Value) (G1 : jm_h) (c1 s1 : Nat), jm_tck YN M 0 (jm_tb M) = true → jm_ev TB BG Ls xs n d M bc bs pc L S G cn sn = some (v, G1, c1, s1) →
      ∀ {p : Program} {l : Launch} {e : Env} {s : State} {m : MethodId} {args : Array Value} {below : List Frame} {meth : Method} {c : Code} {D : va_G} {h0 : Nat} {ex : Nat → Nat} {ka : Nat → ClassId} {G0 : jm_h} {Post : Option Value → jm_h → Prop}, jm_C p s m args meth c D h0 ex ka Ls xs M (jm_len G0) → c1 = bc → s1 ≤ bs → Post v G1 →
      jm_W p l e (jm_room (d + 1) bc bs) s m args below meth c D h0 ex ka M (jm_len G0) (MQ below (jm_Qc D h0 ex ka bc G0 Post) args s bc bs (fun q => h0 ≤ q)) (pc, L, S, G, cn, sn) := by
  intro n
  induction n with
  | zero => intro d M bc bs pc L S G cn sn v G1 c1 s1 _ h; cases h
  | succ n ih =>
    intro d M bc bs pc L S G cn sn v G1 c1 s1 htc h p l e s m args below meth c D h0 ex ka G0 Post C0 hc1 hs1 hP
    rw [jm_ev] at h
    split at h
    · cases h
    · rename_i i hi
      have hc := jm_in_ck htc hi
      split at h
      · rename_i pc' L' S' G' cn' sn' hst
        exact jm_step_ok C0 (Nat.le_refl _) (Nat.le_refl _) (show 1 ≤ d + 1 by omega) (show 64 ≤ 64 * (d + 1) by omega) hc hst (ih d M bc bs pc' L' S' G' cn' sn' v G1 c1 s1 htc h C0 hc1 hs1 hP)
      · split at h
        · rename_i w hw
          cases h
          exact jm_ret_ok C0 hc hw hc1 hs1 hP
        · split at h
          · cases h
          · rename_i d'
            split at h
            · rename_i M1 As rest mc ms hcf hbg
              split at h
              · rename_i hcond
                obtain ⟨hA, hm1, hm2⟩ := hcond
                split at h
                · rename_i w G2 c2 s2 hev
                  split at h
                  · rename_i hcond2
                    obtain ⟨rfl, hs2⟩ := hcond2
                    have hM1 : jm_ok YN M1 := by
                      unfold jm_cf at hcf
                      have gen : ∀ {k : Nat} {X : jm_M}, TB[k]? = some X → jm_ok YN X := fun h => hTB _ _ h
                      split at hcf
                      · split at hcf
                        · split at hcf
                          · rename_i hq
                            split at hcf
                            · cases hcf; exact gen hq
                            · cases hcf
                          · cases hcf
                        · cases hcf
                      · split at hcf
                        · split at hcf
                          · rename_i hq
                            split at hcf
                            · split at hcf
                              · split at hcf
                                · cases hcf; exact gen hq
                                · cases hcf
                              · cases hcf
                            · cases hcf
                          · cases hcf
                        · cases hcf
                      · split at hcf
                        · split at hcf
                          · rename_i hq
                            split at hcf
                            · split at hcf
                              · split at hcf
                                · cases hcf; exact gen hq
                                · cases hcf
                              · cases hcf
                            · cases hcf
                          · cases hcf
                        · cases hcf
                      · cases hcf
                    have hT : jm_T Ls xs (d' + 1) M1 As G c2 ms (fun v G => v = w ∧ G = G2) := by
                      refine jm_T_intro hM1 hA (fun p l e s m args below meth c D h0 ex ka C1 => ?_)
                      exact ih d' M1 c2 ms 0 _ [] G 0 0 w G2 c2 s2 hM1.2.2.2.2.2.2.2.2.2 hev C1 rfl hs2 ⟨rfl, rfl⟩
                    refine jm_call_ok hTB hYN C0 hc hcf hT (show d' + 1 + 1 ≤ d' + 1 + 1 by omega) (show 64 * (d' + 1) + 64 ≤ 64 * (d' + 1 + 1) by omega) hm1 hm2 (fun v1 G3 hq hlen3 => ?_)
                    obtain ⟨rfl, rfl⟩ := hq
                    exact ih (d' + 1) M bc bs (pc + 3) L _ _ _ _ v G1 c1 s1 htc h C0 hc1 hs1 hP
                  · cases h
                · cases h
              · cases h
            · cases h
end
section
/-! ===== a run with symbols: numbers and arrays that are not known, told by a list of equations; branches by a list of bits; what was assumed is gathered ===== -/
abbrev sy_v : Type := Value ⊕ (Nat ⊕ Nat)
abbrev sy_a : Type := (List Int32 ⊕ List Int64) ⊕ (Nat ⊕ Nat)
abbrev sy_c : Type := (Nat × Nat × sy_a) ⊕ (Nat × List sy_v)
abbrev sy_g : Type := List sy_c ⊕ Unit
abbrev sy_h : Type := sy_g × sy_g
abbrev sy_d : Type := Value ⊕ (List Int32 ⊕ List Int64)
abbrev sy_e : Type := Nat × List sy_v × List sy_a
abbrev sy_p : Type := Nat × sy_v × sy_v
def sy_i (F : Nat → sy_d) (k : Nat) : Int32 := match F k with
  | .inl (.int x) => x
  | _ => 0
def sy_l (F : Nat → sy_d) (k : Nat) : Int64 := match F k with
  | .inl (.long x) => x
  | _ => 0
def sy_dv (F : Nat → sy_d) (x : sy_v) : Value := match x with
  | .inl v => v
  | .inr (.inl k) => .int (sy_i F k)
  | .inr (.inr k) => .long (sy_l F k)
def sy_ai (F : Nat → sy_d) (k : Nat) : List Int32 := match F k with
  | .inr (.inl x) => x
  | _ => []
def sy_al (F : Nat → sy_d) (k : Nat) : List Int64 := match F k with
  | .inr (.inr x) => x
  | _ => []
def sy_da (F : Nat → sy_d) (a : sy_a) : List Int32 ⊕ List Int64 := match a with
  | .inl l => l
  | .inr (.inl k) => .inl (sy_ai F k)
  | .inr (.inr k) => .inr (sy_al F k)
def sy_dc (F : Nat → sy_d) (c : sy_c) : jm_c := match c with
  | .inl (k, n, a) => .inl (k, n, sy_da F a)
  | .inr (ci, fs) => .inr (ci, fs.map (sy_dv F))
def sy_dg (F : Nat → sy_d) (X : List jm_c) (g : sy_g) : List jm_c := match g with
  | .inl l => l.map (sy_dc F)
  | .inr _ => X
def sy_dh (F : Nat → sy_d) (X1 X2 : List jm_c) (G : sy_h) : jm_h := (sy_dg F X1 G.1, sy_dg F X2 G.2)
def sy_ty (x : sy_v) : Nat := match x with
  | .inl (.int _) => 0
  | .inl (.long _) => 1
  | .inl (.ref _) => 2
  | .inl _ => 3
  | .inr (.inl _) => 0
  | .inr (.inr _) => 1
theorem sy_ty0 {F : Nat → sy_d} {x : sy_v} (h : sy_ty x = 0) : ∃ a, sy_dv F x = .int a := by
  unfold sy_ty at h
  split at h <;> first | exact ⟨_, rfl⟩ | (exfalso; omega)
theorem sy_ty1 {F : Nat → sy_d} {x : sy_v} (h : sy_ty x = 1) : ∃ a, sy_dv F x = .long a := by
  unfold sy_ty at h
  split at h <;> first | exact ⟨_, rfl⟩ | (exfalso; omega)
/-- numbers out of numbers -/
def sy_o2 (op : Nat) (v w : Value) : Value := match v, w with
  | .int x, .int y => if op = 0 then .int (x + y) else if op = 1 then .int (x - y) else if op = 2 then .int (x * y) else if op = 3 then .int (x &&& y) else if op = 4 then .int (x ||| y) else if op = 5 then .int (x ^^^ y)
    else if op = 6 then .int (x <<< (y &&& 31)) else if op = 7 then .int (x >>> (y &&& 31)) else if op = 8 then .int (x.toUInt32 >>> (y.toUInt32 &&& Int32.toUInt32 31)).toInt32 else if op = 9 then .int (x / y) else .int (x - x / y * y)
  | .long x, .long y => if op = 12 then .long (x + y) else if op = 13 then .long (x - y) else if op = 14 then .long (x * y) else if op = 15 then .long (x / y) else if op = 16 then .long (x - x / y * y) else .int (lg_cmp x y)
  | _, _ => .null
def sy_o1 (op : Nat) (v : Value) : Value := match v with
  | .int x => if op = 20 then .int (0 - x) else if op = 21 then .long x.toInt64 else if op = 22 then .int x.toInt8.toInt32 else if op = 23 then .int (x.toUInt32 % 65536).toInt32 else .int (vp_nar .boolean x)
  | .long x => .int x.toInt32
  | _ => .null
def sy_rd (l : List Int32 ⊕ List Int64) (v : Value) : Value := match l, v with
  | .inl l, .int i => .int (l.getD i.toNatClampNeg 0)
  | .inr l, .int i => .long (l.getD i.toNatClampNeg 0)
  | _, _ => .null
def sy_up (l : List Int32 ⊕ List Int64) (v w : Value) : List Int32 ⊕ List Int64 := match l, v, w with
  | .inl l, .int i, .int x => .inl (jm_upd l i.toNatClampNeg x)
  | .inr l, .int i, .long x => .inr (jm_updL l i.toNatClampNeg x)
  | l, _, _ => l
def sy_cp (f g : List Int32 ⊕ List Int64) (sp dp n : Value) : List Int32 ⊕ List Int64 := match f, g, sp, dp, n with
  | .inl f, .inl g, .int sp, .int dp, .int n => .inl (jm_cpy f g sp.toNatClampNeg dp.toNatClampNeg n.toNatClampNeg)
  | _, g, _, _, _ => g
def sy_sem (F : Nat → sy_d) (e : sy_e) : sy_d := match e.2.1, e.2.2 with
  | [x, y], [] => .inl (sy_o2 e.1 (sy_dv F x) (sy_dv F y))
  | [x], [] => .inl (sy_o1 e.1 (sy_dv F x))
  | [i], [a] => .inl (sy_rd (sy_da F a) (sy_dv F i))
  | [i, x], [a] => .inr (sy_up (sy_da F a) (sy_dv F i) (sy_dv F x))
  | [sp, dp, n], [f, g] => .inr (sy_cp (sy_da F f) (sy_da F g) (sy_dv F sp) (sy_dv F dp) (sy_dv F n))
  | _, _ => .inl .null
def sy_sat (F : Nat → sy_d) (nv : Nat) (T : List sy_e) : Prop := ∀ (k : Nat) (e : sy_e), T[k]? = some e → F (nv + k) = sy_sem F e
/-- what a branch, a bound assumes -/
def sy_ps (F : Nat → sy_d) (p : sy_p) : Prop := match sy_dv F p.2.1, sy_dv F p.2.2 with
  | .int a, .int b => if p.1 = 0 then a = b else if p.1 = 1 then ¬ a = b else if p.1 = 2 then a < b else if p.1 = 3 then ¬ a < b else if p.1 = 4 then a ≤ b else if p.1 = 5 then ¬ a ≤ b else (a = 0 ∨ a = 1)
  | .int a, .ref n => jm_out a n = false
  | .long a, .long b => if p.1 = 1 then ¬ a = b else False
  | _, _ => False
abbrev sy_x : Type := List sy_e × List sy_p × List Bool
theorem sy_sat_pre {F : Nat → sy_d} {nv : Nat} {T r : List sy_e} (h : sy_sat F nv (T ++ r)) : sy_sat F nv T := by
  intro k e hk
  exact h k e (by rw [List.getElem?_append_left (List.getElem?_eq_some_iff.mp hk).1]; exact hk)
theorem sy_sat_last {F : Nat → sy_d} {nv : Nat} {T r : List sy_e} {e : sy_e} (h : sy_sat F nv (T ++ [e] ++ r)) : F (nv + T.length) = sy_sem F e := by
  refine h T.length e ?_
  rw [List.append_assoc, List.getElem?_append_right (Nat.le_refl _)]
  simp
/-- a number out of two: computed, if both are known; else a new equation -/
def sy_a2 (nv op ty : Nat) (x y : sy_v) (T : List sy_e) : sy_v × List sy_e := match x, y with
  | .inl v, .inl w => (.inl (sy_o2 op v w), T)
  | _, _ => (if ty = 0 then .inr (.inl (nv + T.length)) else .inr (.inr (nv + T.length)), T ++ [(op, [x, y], [])])
def sy_a1 (nv op ty : Nat) (x : sy_v) (T : List sy_e) : sy_v × List sy_e := match x with
  | .inl v => (.inl (sy_o1 op v), T)
  | _ => (if ty = 0 then .inr (.inl (nv + T.length)) else .inr (.inr (nv + T.length)), T ++ [(op, [x], [])])
theorem sy_new {F : Nat → sy_d} {nv ty : Nat} {T r : List sy_e} {e : sy_e} {v : Value} (hs : sy_sat F nv (T ++ [e] ++ r)) (he : sy_sem F e = .inl v) (hv : (ty = 0 ∧ ∃ a, v = .int a) ∨ (ty ≠ 0 ∧ ∃ a, v = .long a)) : sy_dv F (if ty = 0 then .inr (.inl (nv + T.length)) else .inr (.inr (nv + T.length))) = v := by
  have h := sy_sat_last hs
  rw [he] at h
  rcases hv with ⟨h0, a, rfl⟩ | ⟨h0, a, rfl⟩
  · rw [if_pos h0]
    simp [sy_dv, sy_i, h]
  · rw [if_neg h0]
    simp [sy_dv, sy_l, h]
theorem sy_a2_ok {F : Nat → sy_d} {nv op ty : Nat} {x y z : sy_v} {T T1 r : List sy_e} (h : sy_a2 nv op ty x y T = (z, T1)) (hs : sy_sat F nv (T1 ++ r)) (hv : (ty = 0 ∧ ∃ a, sy_o2 op (sy_dv F x) (sy_dv F y) = .int a) ∨ (ty ≠ 0 ∧ ∃ a, sy_o2 op (sy_dv F x) (sy_dv F y) = .long a)) : sy_dv F z = sy_o2 op (sy_dv F x) (sy_dv F y) := by
  unfold sy_a2 at h
  split at h
  · cases h; rfl
  · cases h
    exact sy_new hs rfl hv
theorem sy_a1_ok {F : Nat → sy_d} {nv op ty : Nat} {x z : sy_v} {T T1 r : List sy_e} (h : sy_a1 nv op ty x T = (z, T1)) (hs : sy_sat F nv (T1 ++ r)) (hv : (ty = 0 ∧ ∃ a, sy_o1 op (sy_dv F x) = .int a) ∨ (ty ≠ 0 ∧ ∃ a, sy_o1 op (sy_dv F x) = .long a)) : sy_dv F z = sy_o1 op (sy_dv F x) := by
  unfold sy_a1 at h
  split at h
  · cases h; rfl
  · cases h
    exact sy_new hs rfl hv
theorem sy_a2_pre {nv op ty : Nat} {x y z : sy_v} {T T1 : List sy_e} (h : sy_a2 nv op ty x y T = (z, T1)) : ∃ r, T1 = T ++ r := by
  unfold sy_a2 at h
  split at h <;> cases h
  · exact ⟨[], (List.append_nil _).symm⟩
  · exact ⟨_, rfl⟩
theorem sy_a1_pre {nv op ty : Nat} {x z : sy_v} {T T1 : List sy_e} (h : sy_a1 nv op ty x T = (z, T1)) : ∃ r, T1 = T ++ r := by
  unfold sy_a1 at h
  split at h <;> cases h
  · exact ⟨[], (List.append_nil _).symm⟩
  · exact ⟨_, rfl⟩
end
section
/-! ===== the step with symbols: local variables, the stack, numbers, branches ===== -/
abbrev sy_St : Type := Nat × List (Option sy_v) × List sy_v × sy_h × Nat × Nat
def sy_dL (F : Nat → sy_d) (L : List (Option sy_v)) : List (Option Value) := L.map (Option.map (sy_dv F))
def sy_dS (F : Nat → sy_d) (S : List sy_v) : List Value := S.map (sy_dv F)
def sy_cat (x : sy_v) : Nat := match x with
  | .inl v => v.category
  | .inr (.inl _) => 1
  | .inr (.inr _) => 2
theorem sy_cat_ok (F : Nat → sy_d) (x : sy_v) : (sy_dv F x).category = sy_cat x := by
  unfold sy_cat
  split <;> rfl
def sy_ld (L : List (Option sy_v)) (i : Nat) : Option sy_v := (L[i]?).join
theorem sy_ld_ok {F : Nat → sy_d} {L : List (Option sy_v)} {i : Nat} : jm_ld (sy_dL F L) i = (sy_ld L i).map (sy_dv F) := by
  unfold jm_ld sy_ld sy_dL
  rw [List.getElem?_map]
  cases L[i]? with
  | none => rfl
  | some o => cases o <;> rfl
def sy_cl (L : List (Option sy_v)) (i : Nat) : List (Option sy_v) := match i with
  | 0 => L
  | j + 1 => match sy_ld L j with
    | some v => if sy_cat v = 2 then L.set j none else L
    | none => L
theorem sy_cl_ok {F : Nat → sy_d} {L : List (Option sy_v)} {i : Nat} : jm_cl (sy_dL F L) i = sy_dL F (sy_cl L i) := by
  unfold jm_cl sy_cl
  cases i with
  | zero => rfl
  | succ j =>
    dsimp only
    rw [sy_ld_ok]
    cases sy_ld L j with
    | none => rfl
    | some v =>
      dsimp only [Option.map]
      rw [sy_cat_ok]
      split
      · unfold sy_dL; rw [List.map_set]; rfl
      · rfl
def sy_st1 (L : List (Option sy_v)) (i : Nat) (v : sy_v) : List (Option sy_v) := (sy_cl L i).set i (some v)
def sy_st2 (L : List (Option sy_v)) (i : Nat) (v : sy_v) : List (Option sy_v) := ((sy_cl L i).set i (some v)).set (i + 1) none
theorem sy_st1_ok {F : Nat → sy_d} {L : List (Option sy_v)} {i : Nat} {v : sy_v} : jm_st1 (sy_dL F L) i (sy_dv F v) = sy_dL F (sy_st1 L i v) := by
  unfold jm_st1 sy_st1
  rw [sy_cl_ok]
  unfold sy_dL
  rw [List.map_set]
  rfl
theorem sy_st2_ok {F : Nat → sy_d} {L : List (Option sy_v)} {i : Nat} {v : sy_v} : jm_st2 (sy_dL F L) i (sy_dv F v) = sy_dL F (sy_st2 L i v) := by
  unfold jm_st2 sy_st2
  rw [sy_cl_ok]
  unfold sy_dL
  rw [List.map_set, List.map_set]
  rfl
section SYS
variable {M : jm_M} {Ls : Nat} {xs : Nat → Int32} {bc bs : Nat} {e : jm_I} {pc : Nat} {L : List (Option Value)} {S : List Value} {G : jm_h} {q : Nat × Nat} {r : jm_St}
theorem jm_step_a1 (h : jm_a1 e.1 e.2.1 pc L S G q = some r) : jm_step M Ls xs bc bs e pc L S G q = some r := by
  unfold jm_step
  rw [h]
theorem jm_step_d1 (h1 : jm_a1 e.1 e.2.1 pc L S G q = none) (h : jm_d1 e pc L S G q = some r) : jm_step M Ls xs bc bs e pc L S G q = some r := by
  unfold jm_step
  rw [h1, h]
theorem jm_step_b1 (h1 : jm_a1 e.1 e.2.1 pc L S G q = none) (h2 : jm_d1 e pc L S G q = none) (h : jm_b1 e.1 e.2.1 pc L S G q = some r) : jm_step M Ls xs bc bs e pc L S G q = some r := by
  unfold jm_step
  rw [h1, h2, h]
theorem jm_step_c1 (h1 : jm_a1 e.1 e.2.1 pc L S G q = none) (h2 : jm_d1 e pc L S G q = none) (h3 : jm_b1 e.1 e.2.1 pc L S G q = none) (h : jm_c1 e.1 e.2.1 pc L S G q = some r) : jm_step M Ls xs bc bs e pc L S G q = some r := by
  unfold jm_step
  rw [h1, h2, h3, h]
theorem jm_step_a2 (h1 : jm_a1 e.1 e.2.1 pc L S G q = none) (h2 : jm_d1 e pc L S G q = none) (h3 : jm_b1 e.1 e.2.1 pc L S G q = none) (h4 : jm_c1 e.1 e.2.1 pc L S G q = none) (h : jm_a2 (jm_mx M) e.1 e.2.1 pc L S G q = some r) : jm_step M Ls xs bc bs e pc L S G q = some r := by
  unfold jm_step
  rw [h1, h2, h3, h4, h]
theorem jm_step_d2 (h1 : jm_a1 e.1 e.2.1 pc L S G q = none) (h2 : jm_d1 e pc L S G q = none) (h3 : jm_b1 e.1 e.2.1 pc L S G q = none) (h4 : jm_c1 e.1 e.2.1 pc L S G q = none) (h5 : jm_a2 (jm_mx M) e.1 e.2.1 pc L S G q = none) (h : jm_d2 M Ls xs bc bs e pc L S G q = some r) : jm_step M Ls xs bc bs e pc L S G q = some r := by
  unfold jm_step
  rw [h1, h2, h3, h4, h5, h]
theorem jm_step_b2 (h1 : jm_a1 e.1 e.2.1 pc L S G q = none) (h2 : jm_d1 e pc L S G q = none) (h3 : jm_b1 e.1 e.2.1 pc L S G q = none) (h4 : jm_c1 e.1 e.2.1 pc L S G q = none) (h5 : jm_a2 (jm_mx M) e.1 e.2.1 pc L S G q = none) (h6 : jm_d2 M Ls xs bc bs e pc L S G q = none) (h : jm_b2 e.1 e.2.1 pc L S G q = some r) : jm_step M Ls xs bc bs e pc L S G q = some r := by
  unfold jm_step
  rw [h1, h2, h3, h4, h5, h6, h]
theorem jm_step_d3 (h1 : jm_a1 e.1 e.2.1 pc L S G q = none) (h2 : jm_d1 e pc L S G q = none) (h3 : jm_b1 e.1 e.2.1 pc L S G q = none) (h4 : jm_c1 e.1 e.2.1 pc L S G q = none) (h5 : jm_a2 (jm_mx M) e.1 e.2.1 pc L S G q = none) (h6 : jm_d2 M Ls xs bc bs e pc L S G q = none) (h7 : jm_b2 e.1 e.2.1 pc L S G q = none) (h : jm_d3 e pc L S G q = some r) : jm_step M Ls xs bc bs e pc L S G q = some r := by
  unfold jm_step
  rw [h1, h2, h3, h4, h5, h6, h7, h]
end SYS
def sy_1 (mx : Nat) (ins : Instr) (n pc : Nat) (L : List (Option sy_v)) (S : List sy_v) (G : sy_h) (q : Nat × Nat) : Option sy_St := match ins with
  | .iconst k => if n = 1 then some (pc + 1, L, .inl (.int (Int32.ofInt k)) :: S, G, q) else none
  | .bipush k => if n = 2 then some (pc + 2, L, .inl (.int (Int8.ofInt k).toInt32) :: S, G, q) else none
  | .sipush k => if n = 3 then some (pc + 3, L, .inl (.int (Int16.ofInt k).toInt32) :: S, G, q) else none
  | .lconst k => if n = 1 then some (pc + 1, L, .inl (.long (Int64.ofNat (k : Nat))) :: S, G, q) else none
  | .iload_n k => if n = 1 then (match sy_ld L (k : Nat) with
    | some x => if sy_ty x = 0 then some (pc + 1, L, x :: S, G, q) else none
    | none => none) else none
  | .iload k => if n = 2 then (match sy_ld L k with
    | some x => if sy_ty x = 0 then some (pc + 2, L, x :: S, G, q) else none
    | none => none) else none
  | .lload_n k => if n = 1 then (match sy_ld L (k : Nat) with
    | some x => if sy_ty x = 1 then some (pc + 1, L, x :: S, G, q) else none
    | none => none) else none
  | .lload k => if n = 2 then (match sy_ld L k with
    | some x => if sy_ty x = 1 then some (pc + 2, L, x :: S, G, q) else none
    | none => none) else none
  | .aload_n k => if n = 1 then (match sy_ld L (k : Nat) with
    | some (.inl (.ref x)) => if x = 6 then none else some (pc + 1, L, .inl (.ref x) :: S, G, q)
    | _ => none) else none
  | .aload k => if n = 2 then (match sy_ld L k with
    | some (.inl (.ref x)) => if x = 6 then none else some (pc + 2, L, .inl (.ref x) :: S, G, q)
    | _ => none) else none
  | .istore_n k => if n = 1 ∧ (k : Nat) < mx then (match S with
    | x :: r => if sy_ty x = 0 then some (pc + 1, sy_st1 L (k : Nat) x, r, G, q) else none
    | [] => none) else none
  | .istore k => if n = 2 ∧ k < mx then (match S with
    | x :: r => if sy_ty x = 0 then some (pc + 2, sy_st1 L k x, r, G, q) else none
    | [] => none) else none
  | .lstore_n k => if n = 1 ∧ (k : Nat) + 1 < mx then (match S with
    | x :: r => if sy_ty x = 1 then some (pc + 1, sy_st2 L (k : Nat) x, r, G, q) else none
    | [] => none) else none
  | .lstore k => if n = 2 ∧ k + 1 < mx then (match S with
    | x :: r => if sy_ty x = 1 then some (pc + 2, sy_st2 L k x, r, G, q) else none
    | [] => none) else none
  | .astore_n k => if n = 1 ∧ (k : Nat) < mx then (match S with
    | .inl (.ref x) :: r => if x = 6 then none else some (pc + 1, sy_st1 L (k : Nat) (.inl (.ref x)), r, G, q)
    | _ => none) else none
  | .astore k => if n = 2 ∧ k < mx then (match S with
    | .inl (.ref x) :: r => if x = 6 then none else some (pc + 2, sy_st1 L k (.inl (.ref x)), r, G, q)
    | _ => none) else none
  | .dup => if n = 1 then (match S with
    | x :: r => if sy_ty x = 0 ∨ sy_ty x = 2 then some (pc + 1, L, x :: x :: r, G, q) else none
    | [] => none) else none
  | .pop => if n = 1 then (match S with
    | x :: r => if sy_ty x = 0 ∨ sy_ty x = 2 then some (pc + 1, L, r, G, q) else none
    | [] => none) else none
  | .dup2 => if n = 1 then (match S with
    | x :: .inl (.ref y) :: r => if sy_ty x = 0 then some (pc + 1, L, x :: .inl (.ref y) :: x :: .inl (.ref y) :: r, G, q) else none
    | _ => none) else none
  | .goto off => if n = 3 then (match jm_tg pc off with
    | some t => some (t, L, S, G, q)
    | none => none) else none
  | _ => none
theorem sy_ty2 {F : Nat → sy_d} {x : sy_v} (h : sy_ty x = 2) : ∃ a, x = .inl (.ref a) := by
  unfold sy_ty at h
  split at h <;> first | exact ⟨_, rfl⟩ | (exfalso; omega)
theorem sy_dvl (F : Nat → sy_d) (v : Value) : sy_dv F (.inl v) = v := rfl
section SY1
variable {M : jm_M} {Ls : Nat} {xs : Nat → Int32} {bc bs : Nat} {ins : Instr} {n la lb po pc : Nat} {L : List (Option sy_v)} {S : List sy_v} {G : sy_h} {q : Nat × Nat} {st : sy_St} {F : Nat → sy_d} {X1 X2 : List jm_c}
def sy_ds (F : Nat → sy_d) (X1 X2 : List jm_c) (st : sy_St) : jm_St := (st.1, sy_dL F st.2.1, sy_dS F st.2.2.1, sy_dh F X1 X2 st.2.2.2.1, st.2.2.2.2)
set_option maxHeartbeats 8000000 in
theorem sy_1_ok (h : sy_1 (jm_mx M) ins n pc L S G q = some st) : jm_step M Ls xs bc bs (ins, n, la, lb, po) pc (sy_dL F L) (sy_dS F S) (sy_dh F X1 X2 G) q = some (sy_ds F X1 X2 st) := by
  unfold sy_1 at h
  split at h
  · split at h
    · rename_i hn
      subst hn
      cases h
      exact jm_step_a1 rfl
    · cases h
  · split at h
    · rename_i hn
      subst hn
      cases h
      exact jm_step_a1 rfl
    · cases h
  · split at h
    · rename_i hn
      subst hn
      cases h
      exact jm_step_a1 rfl
    · cases h
  · split at h
    · rename_i hn
      subst hn
      cases h
      exact jm_step_a1 rfl
    · cases h
  · split at h
    · rename_i hn
      subst hn
      split at h
      · rename_i x hx
        split at h
        · rename_i ht
          cases h
          obtain ⟨a, ha⟩ := sy_ty0 (F := F) ht
          refine jm_step_a1 ?_
          simp only [jm_a1, sy_ld_ok, hx, Option.map_some, ha, if_pos]
          simp only [sy_ds, sy_dS, List.map_cons, ha]
        · cases h
      · cases h
    · cases h
  · split at h
    · rename_i hn
      subst hn
      split at h
      · rename_i x hx
        split at h
        · rename_i ht
          cases h
          obtain ⟨a, ha⟩ := sy_ty0 (F := F) ht
          refine jm_step_a1 ?_
          simp only [jm_a1, sy_ld_ok, hx, Option.map_some, ha, if_pos]
          simp only [sy_ds, sy_dS, List.map_cons, ha]
        · cases h
      · cases h
    · cases h
  · split at h
    · rename_i hn
      subst hn
      split at h
      · rename_i x hx
        split at h
        · rename_i ht
          cases h
          obtain ⟨a, ha⟩ := sy_ty1 (F := F) ht
          refine jm_step_a1 ?_
          simp only [jm_a1, sy_ld_ok, hx, Option.map_some, ha, if_pos]
          simp only [sy_ds, sy_dS, List.map_cons, ha]
        · cases h
      · cases h
    · cases h
  · split at h
    · rename_i hn
      subst hn
      split at h
      · rename_i x hx
        split at h
        · rename_i ht
          cases h
          obtain ⟨a, ha⟩ := sy_ty1 (F := F) ht
          refine jm_step_a1 ?_
          simp only [jm_a1, sy_ld_ok, hx, Option.map_some, ha, if_pos]
          simp only [sy_ds, sy_dS, List.map_cons, ha]
        · cases h
      · cases h
    · cases h
  · split at h
    · rename_i hn
      subst hn
      split at h
      · rename_i x hx
        split at h
        · cases h
        · rename_i h6
          cases h
          refine jm_step_a1 ?_
          simp only [jm_a1, sy_ld_ok, hx, Option.map_some, sy_dvl, if_pos, if_neg h6]
          rfl
      · cases h
    · cases h
  · split at h
    · rename_i hn
      subst hn
      split at h
      · rename_i x hx
        split at h
        · cases h
        · rename_i h6
          cases h
          refine jm_step_a1 ?_
          simp only [jm_a1, sy_ld_ok, hx, Option.map_some, sy_dvl, if_pos, if_neg h6]
          rfl
      · cases h
    · cases h
  · split at h
    · rename_i hn
      split at h
      · rename_i x r
        split at h
        · rename_i ht
          cases h
          obtain ⟨a, ha⟩ := sy_ty0 (F := F) ht
          refine jm_step_a2 rfl rfl (by unfold jm_b1; split <;> rfl) rfl ?_
          simp only [jm_a2, sy_dS, List.map_cons, ha, if_pos hn]
          rw [← ha, sy_st1_ok]
          rfl
        · cases h
      · cases h
    · cases h
  · split at h
    · rename_i hn
      split at h
      · rename_i x r
        split at h
        · rename_i ht
          cases h
          obtain ⟨a, ha⟩ := sy_ty0 (F := F) ht
          refine jm_step_a2 rfl rfl (by unfold jm_b1; split <;> rfl) rfl ?_
          simp only [jm_a2, sy_dS, List.map_cons, ha, if_pos hn]
          rw [← ha, sy_st1_ok]
          rfl
        · cases h
      · cases h
    · cases h
  · split at h
    · rename_i hn
      split at h
      · rename_i x r
        split at h
        · rename_i ht
          cases h
          obtain ⟨a, ha⟩ := sy_ty1 (F := F) ht
          refine jm_step_a2 rfl rfl (by unfold jm_b1; split <;> rfl) rfl ?_
          simp only [jm_a2, sy_dS, List.map_cons, ha, if_pos hn]
          rw [← ha, sy_st2_ok]
          rfl
        · cases h
      · cases h
    · cases h
  · split at h
    · rename_i hn
      split at h
      · rename_i x r
        split at h
        · rename_i ht
          cases h
          obtain ⟨a, ha⟩ := sy_ty1 (F := F) ht
          refine jm_step_a2 rfl rfl (by unfold jm_b1; split <;> rfl) rfl ?_
          simp only [jm_a2, sy_dS, List.map_cons, ha, if_pos hn]
          rw [← ha, sy_st2_ok]
          rfl
        · cases h
      · cases h
    · cases h
  · split at h
    · rename_i hn
      split at h
      · rename_i x r
        split at h
        · cases h
        · rename_i h6
          cases h
          refine jm_step_a2 rfl rfl (by unfold jm_b1; split <;> rfl) rfl ?_
          simp only [jm_a2, sy_dS, List.map_cons, sy_dvl, if_pos hn, if_neg h6]
          rw [show Value.ref x = sy_dv F (.inl (.ref x)) from rfl, sy_st1_ok]
          rfl
      · cases h
    · cases h
  · split at h
    · rename_i hn
      split at h
      · rename_i x r
        split at h
        · cases h
        · rename_i h6
          cases h
          refine jm_step_a2 rfl rfl (by unfold jm_b1; split <;> rfl) rfl ?_
          simp only [jm_a2, sy_dS, List.map_cons, sy_dvl, if_pos hn, if_neg h6]
          rw [show Value.ref x = sy_dv F (.inl (.ref x)) from rfl, sy_st1_ok]
          rfl
      · cases h
    · cases h
  · split at h
    · rename_i hn
      split at h
      · rename_i x r
        split at h
        · rename_i ht
          cases h
          refine jm_step_a2 rfl rfl (by unfold jm_b1; split <;> rfl) rfl ?_
          rcases ht with ht | ht
          · obtain ⟨a, ha⟩ := sy_ty0 (F := F) ht
            simp only [jm_a2, sy_dS, List.map_cons, ha, if_pos hn, sy_ds]
          · obtain ⟨a, ha⟩ := sy_ty2 (F := F) ht
            subst ha
            simp only [jm_a2, sy_dS, List.map_cons, sy_dvl, if_pos hn, sy_ds]
        · cases h
      · cases h
    · cases h
  · split at h
    · rename_i hn
      split at h
      · rename_i x r
        split at h
        · rename_i ht
          cases h
          refine jm_step_a2 rfl rfl (by unfold jm_b1; split <;> rfl) rfl ?_
          rcases ht with ht | ht
          · obtain ⟨a, ha⟩ := sy_ty0 (F := F) ht
            simp only [jm_a2, sy_dS, List.map_cons, ha, if_pos hn, sy_ds]
          · obtain ⟨a, ha⟩ := sy_ty2 (F := F) ht
            subst ha
            simp only [jm_a2, sy_dS, List.map_cons, sy_dvl, if_pos hn, sy_ds]
        · cases h
      · cases h
    · cases h
  · split at h
    · rename_i hn
      split at h
      · rename_i x y r
        split at h
        · rename_i ht
          cases h
          refine jm_step_a2 rfl rfl (by unfold jm_b1; split <;> rfl) rfl ?_
          obtain ⟨a, ha⟩ := sy_ty0 (F := F) ht
          simp only [jm_a2, sy_dS, List.map_cons, ha, sy_dvl, if_pos hn, sy_ds]
        · cases h
      · cases h
    · cases h
  · split at h
    · rename_i hn
      split at h
      · rename_i t ht
        cases h
        refine jm_step_c1 rfl rfl (by unfold jm_b1; split <;> rfl) ?_
        simp only [jm_c1, if_pos hn, ht]
        rfl
      · cases h
    · cases h
  · cases h
end SY1
end
section
/-! ===== numbers and branches, with symbols ===== -/
def sy_op (ins : Instr) : Option (Nat × Nat × Nat) := match ins with
  | .iadd => some (0, 0, 0)
  | .isub => some (1, 0, 0)
  | .imul => some (2, 0, 0)
  | .iand => some (3, 0, 0)
  | .ior => some (4, 0, 0)
  | .ixor => some (5, 0, 0)
  | .ishl => some (6, 0, 0)
  | .ishr => some (7, 0, 0)
  | .iushr => some (8, 0, 0)
  | .ladd => some (12, 1, 1)
  | .lsub => some (13, 1, 1)
  | .lmul => some (14, 1, 1)
  | .lcmp => some (17, 1, 0)
  | _ => none
def sy_op1 (ins : Instr) : Option (Nat × Nat × Nat) := match ins with
  | .ineg => some (20, 0, 0)
  | .i2l => some (21, 0, 1)
  | .i2b => some (22, 0, 0)
  | .i2c => some (23, 0, 0)
  | .l2i => some (25, 1, 0)
  | _ => none
def sy_opd (ins : Instr) : Option (Nat × Nat) := match ins with
  | .idiv => some (9, 0)
  | .irem => some (10, 0)
  | .ldiv => some (15, 1)
  | .lrem => some (16, 1)
  | _ => none
def sy_zero (t : Nat) : sy_v := if t = 0 then .inl (.int 0) else .inl (.long 0)
def sy_2 (nv : Nat) (ins : Instr) (n pc : Nat) (L : List (Option sy_v)) (S : List sy_v) (G : sy_h) (q : Nat × Nat) (x : sy_x) : Option (sy_St × sy_x) :=
  if n = 1 then (match sy_op ins with
  | some o => (match S with
    | b :: a :: r => if sy_ty a = o.2.1 ∧ sy_ty b = o.2.1 then some ((pc + 1, L, (sy_a2 nv o.1 o.2.2 a b x.1).1 :: r, G, q), (sy_a2 nv o.1 o.2.2 a b x.1).2, x.2) else none
    | _ => none)
  | none => (match sy_op1 ins with
    | some o => (match S with
      | a :: r => if sy_ty a = o.2.1 then some ((pc + 1, L, (sy_a1 nv o.1 o.2.2 a x.1).1 :: r, G, q), (sy_a1 nv o.1 o.2.2 a x.1).2, x.2) else none
      | _ => none)
    | none => (match sy_opd ins with
      | some o => (match S with
        | b :: a :: r => if sy_ty a = o.2 ∧ sy_ty b = o.2 then some ((pc + 1, L, (sy_a2 nv o.1 o.2 a b x.1).1 :: r, G, q), (sy_a2 nv o.1 o.2 a b x.1).2, x.2.1 ++ [(1, b, sy_zero o.2)], x.2.2) else none
        | _ => none)
      | none => none)))
  else none
section SY2
variable {M : jm_M} {Ls : Nat} {xs : Nat → Int32} {bc bs : Nat} {ins : Instr} {n la lb po pc : Nat} {q : Nat × Nat} {F : Nat → sy_d} {X1 X2 : List jm_c}
variable {L0 : List (Option Value)} {r0 : List Value} {G0 : jm_h}
theorem sy_op_ok {o : Nat × Nat × Nat} (h : sy_op ins = some o) {v w : Value} (hv : (o.2.1 = 0 ∧ (∃ a, v = .int a) ∧ ∃ b, w = .int b) ∨ (o.2.1 = 1 ∧ (∃ a, v = .long a) ∧ ∃ b, w = .long b)) :
    jm_step M Ls xs bc bs (ins, 1, la, lb, po) pc L0 (w :: v :: r0) G0 q = some (pc + 1, L0, sy_o2 o.1 v w :: r0, G0, q) ∧ ((o.2.2 = 0 ∧ ∃ a, sy_o2 o.1 v w = .int a) ∨ (o.2.2 ≠ 0 ∧ ∃ a, sy_o2 o.1 v w = .long a)) := by
  unfold sy_op at h
  split at h
  · cases h
    rcases hv with ⟨h0, ⟨a, rfl⟩, ⟨b, rfl⟩⟩ | ⟨h0, ⟨a, rfl⟩, ⟨b, rfl⟩⟩
    · exact ⟨jm_step_b1 rfl rfl rfl, Or.inl ⟨rfl, _, rfl⟩⟩
    · exact absurd h0 (by decide)
  · cases h
    rcases hv with ⟨h0, ⟨a, rfl⟩, ⟨b, rfl⟩⟩ | ⟨h0, ⟨a, rfl⟩, ⟨b, rfl⟩⟩
    · exact ⟨jm_step_b1 rfl rfl rfl, Or.inl ⟨rfl, _, rfl⟩⟩
    · exact absurd h0 (by decide)
  · cases h
    rcases hv with ⟨h0, ⟨a, rfl⟩, ⟨b, rfl⟩⟩ | ⟨h0, ⟨a, rfl⟩, ⟨b, rfl⟩⟩
    · exact ⟨jm_step_b1 rfl rfl rfl, Or.inl ⟨rfl, _, rfl⟩⟩
    · exact absurd h0 (by decide)
  · cases h
    rcases hv with ⟨h0, ⟨a, rfl⟩, ⟨b, rfl⟩⟩ | ⟨h0, ⟨a, rfl⟩, ⟨b, rfl⟩⟩
    · exact ⟨jm_step_b1 rfl rfl rfl, Or.inl ⟨rfl, _, rfl⟩⟩
    · exact absurd h0 (by decide)
  · cases h
    rcases hv with ⟨h0, ⟨a, rfl⟩, ⟨b, rfl⟩⟩ | ⟨h0, ⟨a, rfl⟩, ⟨b, rfl⟩⟩
    · exact ⟨jm_step_b1 rfl rfl rfl, Or.inl ⟨rfl, _, rfl⟩⟩
    · exact absurd h0 (by decide)
  · cases h
    rcases hv with ⟨h0, ⟨a, rfl⟩, ⟨b, rfl⟩⟩ | ⟨h0, ⟨a, rfl⟩, ⟨b, rfl⟩⟩
    · exact ⟨jm_step_b1 rfl rfl rfl, Or.inl ⟨rfl, _, rfl⟩⟩
    · exact absurd h0 (by decide)
  · cases h
    rcases hv with ⟨h0, ⟨a, rfl⟩, ⟨b, rfl⟩⟩ | ⟨h0, ⟨a, rfl⟩, ⟨b, rfl⟩⟩
    · exact ⟨jm_step_b1 rfl rfl rfl, Or.inl ⟨rfl, _, rfl⟩⟩
    · exact absurd h0 (by decide)
  · cases h
    rcases hv with ⟨h0, ⟨a, rfl⟩, ⟨b, rfl⟩⟩ | ⟨h0, ⟨a, rfl⟩, ⟨b, rfl⟩⟩
    · exact ⟨jm_step_b1 rfl rfl rfl, Or.inl ⟨rfl, _, rfl⟩⟩
    · exact absurd h0 (by decide)
  · cases h
    rcases hv with ⟨h0, ⟨a, rfl⟩, ⟨b, rfl⟩⟩ | ⟨h0, ⟨a, rfl⟩, ⟨b, rfl⟩⟩
    · exact ⟨jm_step_b1 rfl rfl rfl, Or.inl ⟨rfl, _, rfl⟩⟩
    · exact absurd h0 (by decide)
  · cases h
    rcases hv with ⟨h0, ⟨a, rfl⟩, ⟨b, rfl⟩⟩ | ⟨h0, ⟨a, rfl⟩, ⟨b, rfl⟩⟩
    · exact absurd h0 (by decide)
    · exact ⟨jm_step_b2 rfl rfl rfl rfl rfl rfl rfl, Or.inr ⟨by decide, _, rfl⟩⟩
  · cases h
    rcases hv with ⟨h0, ⟨a, rfl⟩, ⟨b, rfl⟩⟩ | ⟨h0, ⟨a, rfl⟩, ⟨b, rfl⟩⟩
    · exact absurd h0 (by decide)
    · exact ⟨jm_step_b2 rfl rfl rfl rfl rfl rfl rfl, Or.inr ⟨by decide, _, rfl⟩⟩
  · cases h
    rcases hv with ⟨h0, ⟨a, rfl⟩, ⟨b, rfl⟩⟩ | ⟨h0, ⟨a, rfl⟩, ⟨b, rfl⟩⟩
    · exact absurd h0 (by decide)
    · exact ⟨jm_step_b2 rfl rfl rfl rfl rfl rfl rfl, Or.inr ⟨by decide, _, rfl⟩⟩
  · cases h
    rcases hv with ⟨h0, ⟨a, rfl⟩, ⟨b, rfl⟩⟩ | ⟨h0, ⟨a, rfl⟩, ⟨b, rfl⟩⟩
    · exact absurd h0 (by decide)
    · exact ⟨jm_step_b2 rfl rfl rfl rfl rfl rfl rfl, Or.inl ⟨rfl, _, rfl⟩⟩
  · cases h
theorem sy_op1_ok {o : Nat × Nat × Nat} (h : sy_op1 ins = some o) {v : Value} (hv : (o.2.1 = 0 ∧ (∃ a, v = .int a)) ∨ (o.2.1 = 1 ∧ (∃ a, v = .long a))) :
    jm_step M Ls xs bc bs (ins, 1, la, lb, po) pc L0 (v :: r0) G0 q = some (pc + 1, L0, sy_o1 o.1 v :: r0, G0, q) ∧ ((o.2.2 = 0 ∧ ∃ a, sy_o1 o.1 v = .int a) ∨ (o.2.2 ≠ 0 ∧ ∃ a, sy_o1 o.1 v = .long a)) := by
  unfold sy_op1 at h
  split at h
  · cases h
    rcases hv with ⟨h0, ⟨a, rfl⟩⟩ | ⟨h0, ⟨a, rfl⟩⟩
    · exact ⟨jm_step_b1 rfl rfl rfl, Or.inl ⟨rfl, _, rfl⟩⟩
    · exact absurd h0 (by decide)
  · cases h
    rcases hv with ⟨h0, ⟨a, rfl⟩⟩ | ⟨h0, ⟨a, rfl⟩⟩
    · exact ⟨jm_step_b2 rfl rfl rfl rfl rfl rfl rfl, Or.inr ⟨by decide, _, rfl⟩⟩
    · exact absurd h0 (by decide)
  · cases h
    rcases hv with ⟨h0, ⟨a, rfl⟩⟩ | ⟨h0, ⟨a, rfl⟩⟩
    · exact ⟨jm_step_b2 rfl rfl rfl rfl rfl rfl rfl, Or.inl ⟨rfl, _, rfl⟩⟩
    · exact absurd h0 (by decide)
  · cases h
    rcases hv with ⟨h0, ⟨a, rfl⟩⟩ | ⟨h0, ⟨a, rfl⟩⟩
    · exact ⟨jm_step_b2 rfl rfl rfl rfl rfl rfl rfl, Or.inl ⟨rfl, _, rfl⟩⟩
    · exact absurd h0 (by decide)
  · cases h
    rcases hv with ⟨h0, ⟨a, rfl⟩⟩ | ⟨h0, ⟨a, rfl⟩⟩
    · exact absurd h0 (by decide)
    · exact ⟨jm_step_b2 rfl rfl rfl rfl rfl rfl rfl, Or.inl ⟨rfl, _, rfl⟩⟩
  · cases h
theorem sy_opd_ok {o : Nat × Nat} (h : sy_opd ins = some o) {v w : Value} (hv : (o.2 = 0 ∧ (∃ a, v = .int a) ∧ ∃ b, w = .int b ∧ ¬ b = 0) ∨ (o.2 = 1 ∧ (∃ a, v = .long a) ∧ ∃ b, w = .long b ∧ ¬ b = 0)) :
    jm_step M Ls xs bc bs (ins, 1, la, lb, po) pc L0 (w :: v :: r0) G0 q = some (pc + 1, L0, sy_o2 o.1 v w :: r0, G0, q) ∧ ((o.2 = 0 ∧ ∃ a, sy_o2 o.1 v w = .int a) ∨ (o.2 ≠ 0 ∧ ∃ a, sy_o2 o.1 v w = .long a)) := by
  unfold sy_opd at h
  split at h
  · cases h
    rcases hv with ⟨h0, ⟨a, rfl⟩, ⟨b, rfl, hb⟩⟩ | ⟨h0, ⟨a, rfl⟩, ⟨b, rfl, hb⟩⟩
    · exact ⟨jm_step_b1 rfl rfl (if_neg hb), Or.inl ⟨rfl, _, rfl⟩⟩
    · exact absurd h0 (by decide)
  · cases h
    rcases hv with ⟨h0, ⟨a, rfl⟩, ⟨b, rfl, hb⟩⟩ | ⟨h0, ⟨a, rfl⟩, ⟨b, rfl, hb⟩⟩
    · exact ⟨jm_step_b1 rfl rfl (if_neg hb), Or.inl ⟨rfl, _, rfl⟩⟩
    · exact absurd h0 (by decide)
  · cases h
    rcases hv with ⟨h0, ⟨a, rfl⟩, ⟨b, rfl, hb⟩⟩ | ⟨h0, ⟨a, rfl⟩, ⟨b, rfl, hb⟩⟩
    · exact absurd h0 (by decide)
    · exact ⟨jm_step_b2 rfl rfl rfl rfl rfl rfl (if_neg hb), Or.inr ⟨by decide, _, rfl⟩⟩
  · cases h
    rcases hv with ⟨h0, ⟨a, rfl⟩, ⟨b, rfl, hb⟩⟩ | ⟨h0, ⟨a, rfl⟩, ⟨b, rfl, hb⟩⟩
    · exact absurd h0 (by decide)
    · exact ⟨jm_step_b2 rfl rfl rfl rfl rfl rfl (if_neg hb), Or.inr ⟨by decide, _, rfl⟩⟩
  · cases h
end SY2
theorem sy_op_ty {ins : Instr} {o : Nat × Nat × Nat} (h : sy_op ins = some o) : o.2.1 = 0 ∨ o.2.1 = 1 := by
  unfold sy_op at h
  split at h <;> first | (cases h; first | exact Or.inl rfl | exact Or.inr rfl) | cases h
theorem sy_op1_ty {ins : Instr} {o : Nat × Nat × Nat} (h : sy_op1 ins = some o) : o.2.1 = 0 ∨ o.2.1 = 1 := by
  unfold sy_op1 at h
  split at h <;> first | (cases h; first | exact Or.inl rfl | exact Or.inr rfl) | cases h
theorem sy_opd_ty {ins : Instr} {o : Nat × Nat} (h : sy_opd ins = some o) : o.2 = 0 ∨ o.2 = 1 := by
  unfold sy_opd at h
  split at h <;> first | (cases h; first | exact Or.inl rfl | exact Or.inr rfl) | cases h
section SY2b
variable {M : jm_M} {Ls : Nat} {xs : Nat → Int32} {bc bs : Nat} {ins : Instr} {n la lb po pc nv : Nat} {L : List (Option sy_v)} {S : List sy_v} {G : sy_h} {q : Nat × Nat} {st : sy_St} {x y : sy_x} {F : Nat → sy_d} {X1 X2 : List jm_c} {r : List sy_e}
set_option maxHeartbeats 4000000 in
theorem sy_2_ok (h : sy_2 nv ins n pc L S G q x = some (st, y)) : (∃ r, y.1 = x.1 ++ r) ∧ (∃ r, y.2.1 = x.2.1 ++ r) ∧ ∀ (F : Nat → sy_d) (X1 X2 : List jm_c) (r : List sy_e), sy_sat F nv (y.1 ++ r) → (∀ p ∈ y.2.1, sy_ps F p) →
    jm_step M Ls xs bc bs (ins, n, la, lb, po) pc (sy_dL F L) (sy_dS F S) (sy_dh F X1 X2 G) q = some (sy_ds F X1 X2 st) := by
  unfold sy_2 at h
  split at h
  · rename_i hn
    subst hn
    split at h
    · rename_i o ho
      split at h
      · rename_i b a r0
        split at h
        · rename_i hty
          cases h
          obtain ⟨⟨z, T1⟩, hz⟩ : ∃ z, sy_a2 nv o.1 o.2.2 a b x.1 = z := ⟨_, rfl⟩
          rw [hz]
          refine ⟨sy_a2_pre hz, ⟨[], (List.append_nil _).symm⟩, fun F X1 X2 r hs hp => ?_⟩
          have hv : (o.2.1 = 0 ∧ (∃ c, sy_dv F a = .int c) ∧ ∃ c, sy_dv F b = .int c) ∨ (o.2.1 = 1 ∧ (∃ c, sy_dv F a = .long c) ∧ ∃ c, sy_dv F b = .long c) := by
            rcases sy_op_ty ho with e | e
            · exact Or.inl ⟨e, sy_ty0 (hty.1.trans e), sy_ty0 (hty.2.trans e)⟩
            · exact Or.inr ⟨e, sy_ty1 (hty.1.trans e), sy_ty1 (hty.2.trans e)⟩
          obtain ⟨k1, k2⟩ := sy_op_ok (M := M) (Ls := Ls) (xs := xs) (bc := bc) (bs := bs) (la := la) (lb := lb) (po := po) (pc := pc) (q := q) (L0 := sy_dL F L) (r0 := sy_dS F r0) (G0 := sy_dh F X1 X2 G) ho hv
          have hd := sy_a2_ok hz hs k2
          refine k1.trans ?_
          rw [← hd]
          rfl
        · cases h
      · cases h
    · split at h
      · rename_i o ho
        split at h
        · rename_i a r0
          split at h
          · rename_i hty
            cases h
            obtain ⟨⟨z, T1⟩, hz⟩ : ∃ z, sy_a1 nv o.1 o.2.2 a x.1 = z := ⟨_, rfl⟩
            rw [hz]
            refine ⟨sy_a1_pre hz, ⟨[], (List.append_nil _).symm⟩, fun F X1 X2 r hs hp => ?_⟩
            have hv : (o.2.1 = 0 ∧ (∃ c, sy_dv F a = .int c)) ∨ (o.2.1 = 1 ∧ (∃ c, sy_dv F a = .long c)) := by
              rcases sy_op1_ty ho with e | e
              · exact Or.inl ⟨e, sy_ty0 (hty.trans e)⟩
              · exact Or.inr ⟨e, sy_ty1 (hty.trans e)⟩
            obtain ⟨k1, k2⟩ := sy_op1_ok (M := M) (Ls := Ls) (xs := xs) (bc := bc) (bs := bs) (la := la) (lb := lb) (po := po) (pc := pc) (q := q) (L0 := sy_dL F L) (r0 := sy_dS F r0) (G0 := sy_dh F X1 X2 G) ho hv
            have hd := sy_a1_ok hz hs k2
            refine k1.trans ?_
            rw [← hd]
            rfl
          · cases h
        · cases h
      · split at h
        · rename_i o ho
          split at h
          · rename_i b a r0
            split at h
            · rename_i hty
              cases h
              obtain ⟨⟨z, T1⟩, hz⟩ : ∃ z, sy_a2 nv o.1 o.2 a b x.1 = z := ⟨_, rfl⟩
              rw [hz]
              refine ⟨sy_a2_pre hz, ⟨_, rfl⟩, fun F X1 X2 r hs hp => ?_⟩
              have hb := hp (1, b, sy_zero o.2) (List.mem_append_right _ List.mem_cons_self)
              have hv : (o.2 = 0 ∧ (∃ c, sy_dv F a = .int c) ∧ ∃ c, sy_dv F b = .int c ∧ ¬ c = 0) ∨ (o.2 = 1 ∧ (∃ c, sy_dv F a = .long c) ∧ ∃ c, sy_dv F b = .long c ∧ ¬ c = 0) := by
                rcases sy_opd_ty ho with e | e
                · obtain ⟨c, hc⟩ := sy_ty0 (F := F) (hty.2.trans e)
                  refine Or.inl ⟨e, sy_ty0 (hty.1.trans e), c, hc, ?_⟩
                  rw [e] at hb
                  simpa [sy_ps, hc, sy_zero, sy_dvl] using hb
                · obtain ⟨c, hc⟩ := sy_ty1 (F := F) (hty.2.trans e)
                  refine Or.inr ⟨e, sy_ty1 (hty.1.trans e), c, hc, ?_⟩
                  rw [e] at hb
                  simpa [sy_ps, hc, sy_zero, sy_dvl] using hb
              obtain ⟨k1, k2⟩ := sy_opd_ok (M := M) (Ls := Ls) (xs := xs) (bc := bc) (bs := bs) (la := la) (lb := lb) (po := po) (pc := pc) (q := q) (L0 := sy_dL F L) (r0 := sy_dS F r0) (G0 := sy_dh F X1 X2 G) ho hv
              have hd := sy_a2_ok hz hs k2
              refine k1.trans ?_
              rw [← hd]
              rfl
            · cases h
          · cases h
        · cases h
  · cases h
end SY2b
/-- which branch -/
def sy_bt (k : Jvm.ClassFile.Cond) (a b : Int32) : Bool := match k with
  | .eq => decide (a = b)
  | .ne => !decide (a = b)
  | .lt => decide (a < b)
  | .ge => decide (b ≤ a)
  | .gt => decide (b < a)
  | .le => decide (a ≤ b)
def sy_bk (k : Jvm.ClassFile.Cond) (t : Bool) (x y : sy_v) : sy_p := match k with
  | .eq => (bif t then 0 else 1, x, y)
  | .ne => (bif t then 1 else 0, x, y)
  | .lt => (bif t then 2 else 3, x, y)
  | .ge => (bif t then 4 else 5, y, x)
  | .gt => (bif t then 2 else 3, y, x)
  | .le => (bif t then 4 else 5, x, y)
theorem sy_bk_ok {F : Nat → sy_d} {k : Jvm.ClassFile.Cond} {t : Bool} {x y : sy_v} {a b : Int32} (hx : sy_dv F x = .int a) (hy : sy_dv F y = .int b) (h : sy_ps F (sy_bk k t x y)) : sy_bt k a b = t := by
  cases k <;> cases t <;> simp_all [sy_bk, sy_bt, sy_ps]
/-- a branch: both numbers known, or by the next bit -/
def sy_br (k : Jvm.ClassFile.Cond) (x y : sy_v) (P : List sy_p) (O : List Bool) : Option (Bool × List sy_p × List Bool) := match x, y with
  | .inl (.int a), .inl (.int b) => some (sy_bt k a b, P, O)
  | _, _ => (match O with
    | t :: O1 => some (t, P ++ [sy_bk k t x y], O1)
    | [] => none)
def sy_3 (ins : Instr) (n pc : Nat) (L : List (Option sy_v)) (S : List sy_v) (G : sy_h) (q : Nat × Nat) (x : sy_x) : Option (sy_St × sy_x) := match ins with
  | .ifCond k off => if n = 3 then (match S, jm_tg pc off with
    | a :: r, some t => if sy_ty a = 0 then (match sy_br k a (.inl (.int 0)) x.2.1 x.2.2 with
      | some (b, P1, O1) => some ((bif b then t else pc + 3, L, r, G, q), x.1, P1, O1)
      | none => none) else none
    | _, _ => none) else none
  | .if_icmp k off => if n = 3 then (match S, jm_tg pc off with
    | b :: a :: r, some t => if sy_ty a = 0 ∧ sy_ty b = 0 then (match sy_br k a b x.2.1 x.2.2 with
      | some (b, P1, O1) => some ((bif b then t else pc + 3, L, r, G, q), x.1, P1, O1)
      | none => none) else none
    | _, _ => none) else none
  | .tableswitch dflt lo hi offs => (match S with
    | .inl (.int v) :: r => if v.toInt < lo ∨ hi < v.toInt then (match jm_tg pc dflt with
        | some t => some ((t, L, r, G, q), x)
        | none => none)
      else (match offs[(v.toInt - lo).toNat]? with
        | some off => (match jm_tg pc off with
          | some t => some ((t, L, r, G, q), x)
          | none => none)
        | none => none)
    | .inr (.inl a) :: r => if (Int32.ofInt lo).toInt = lo ∧ (Int32.ofInt hi).toInt = hi then (match x.2.2, jm_tg pc dflt with
        | b :: O1, some t => some ((t, L, r, G, q), x.1, x.2.1 ++ [bif b then (2, .inr (.inl a), .inl (.int (Int32.ofInt lo))) else (2, .inl (.int (Int32.ofInt hi)), .inr (.inl a))], O1)
        | _, _ => none) else none
    | _ => none)
  | .iinc k d => none
  | _ => none
theorem sy_br_ok {k : Jvm.ClassFile.Cond} {x y : sy_v} {P P1 : List sy_p} {O O1 : List Bool} {t : Bool} (h : sy_br k x y P O = some (t, P1, O1)) : (∃ r, P1 = P ++ r) ∧ ∀ (F : Nat → sy_d) (a b : Int32), sy_dv F x = .int a → sy_dv F y = .int b → (∀ p ∈ P1, sy_ps F p) → sy_bt k a b = t := by
  unfold sy_br at h
  split at h
  · cases h
    exact ⟨⟨[], (List.append_nil _).symm⟩, fun F a b hx hy _ => by cases hx; cases hy; rfl⟩
  · split at h
    · cases h
      exact ⟨⟨_, rfl⟩, fun F a b hx hy hp => sy_bk_ok hx hy (hp _ (List.mem_append_right _ List.mem_cons_self))⟩
    · cases h
theorem sy_if {c : Prop} (hc : Decidable c) {α : Type} {t : Bool} {a b : α} (h : @decide c hc = t) : (@ite α c hc a b) = (bif t then a else b) := by
  cases t with
  | true => rw [if_pos (of_decide_eq_true h)]; rfl
  | false => rw [if_neg (of_decide_eq_false h)]; rfl
section SY3
variable {M : jm_M} {Ls : Nat} {xs : Nat → Int32} {bc bs : Nat} {ins : Instr} {n la lb po pc nv : Nat} {L : List (Option sy_v)} {S : List sy_v} {G : sy_h} {q : Nat × Nat} {st : sy_St} {x y : sy_x}
theorem sy_c1_if {k : Jvm.ClassFile.Cond} {off : Int} {t : Nat} {b : Bool} {a : Int32} {L0 : List (Option Value)} {r0 : List Value} {G0 : jm_h} (ht : jm_tg pc off = some t) (hb : sy_bt k a 0 = b) : jm_c1 (.ifCond k off) 3 pc L0 (.int a :: r0) G0 q = some (bif b then t else pc + 3, L0, r0, G0, q) := by
  simp only [jm_c1, if_pos, ht]
  cases k <;> simp only [sy_bt] at hb <;> subst hb <;> dsimp only <;> congr 2 <;> first | exact sy_if _ rfl | (rw [Bool.cond_not]; exact sy_if _ rfl)
theorem sy_c1_icmp {k : Jvm.ClassFile.Cond} {off : Int} {t : Nat} {b : Bool} {a c : Int32} {L0 : List (Option Value)} {r0 : List Value} {G0 : jm_h} (ht : jm_tg pc off = some t) (hb : sy_bt k a c = b) : jm_c1 (.if_icmp k off) 3 pc L0 (.int c :: .int a :: r0) G0 q = some (bif b then t else pc + 3, L0, r0, G0, q) := by
  simp only [jm_c1, if_pos, ht]
  cases k <;> simp only [sy_bt] at hb <;> subst hb <;> dsimp only <;> congr 2 <;> first | exact sy_if _ rfl | (rw [Bool.cond_not]; exact sy_if _ rfl)
set_option maxHeartbeats 4000000 in
theorem sy_3_ok (h : sy_3 ins n pc L S G q x = some (st, y)) : (∃ r, y.1 = x.1 ++ r) ∧ (∃ r, y.2.1 = x.2.1 ++ r) ∧ ∀ (F : Nat → sy_d) (X1 X2 : List jm_c), (∀ p ∈ y.2.1, sy_ps F p) →
    jm_step M Ls xs bc bs (ins, n, la, lb, po) pc (sy_dL F L) (sy_dS F S) (sy_dh F X1 X2 G) q = some (sy_ds F X1 X2 st) := by
  unfold sy_3 at h
  split at h
  · split at h
    · rename_i hn
      subst hn
      split at h
      · rename_i a r t ht
        split at h
        · rename_i hty
          split at h
          · rename_i b P1 O1 hbr
            cases h
            obtain ⟨k1, k2⟩ := sy_br_ok hbr
            refine ⟨⟨[], (List.append_nil _).symm⟩, k1, fun F X1 X2 hp => ?_⟩
            obtain ⟨v, hv⟩ := sy_ty0 (F := F) hty
            refine jm_step_c1 rfl rfl rfl ?_
            show jm_c1 _ _ pc (sy_dL F L) (sy_dv F a :: sy_dS F r) _ q = _
            rw [hv]
            exact sy_c1_if ht (k2 F v 0 hv rfl hp)
          · cases h
        · cases h
      · cases h
    · cases h
  · split at h
    · rename_i hn
      subst hn
      split at h
      · rename_i a c r t ht
        split at h
        · rename_i hty
          split at h
          · rename_i b P1 O1 hbr
            cases h
            obtain ⟨k1, k2⟩ := sy_br_ok hbr
            refine ⟨⟨[], (List.append_nil _).symm⟩, k1, fun F X1 X2 hp => ?_⟩
            obtain ⟨v, hv⟩ := sy_ty0 (F := F) hty.1
            obtain ⟨w, hw⟩ := sy_ty0 (F := F) hty.2
            refine jm_step_c1 rfl rfl rfl ?_
            show jm_c1 _ _ pc (sy_dL F L) (sy_dv F a :: sy_dv F c :: sy_dS F r) _ q = _
            rw [hv, hw]
            exact sy_c1_icmp ht (k2 F v w hv hw hp)
          · cases h
        · cases h
      · cases h
    · cases h
  · rename_i dflt lo hi offs
    split at h
    · rename_i v r
      split at h
      · rename_i hc
        split at h
        · rename_i t ht
          cases h
          refine ⟨⟨[], (List.append_nil _).symm⟩, ⟨[], (List.append_nil _).symm⟩, fun F X1 X2 hp => ?_⟩
          refine jm_step_c1 rfl rfl (by unfold jm_b1; split <;> rfl) ?_
          show jm_c1 _ _ pc (sy_dL F L) (.int v :: sy_dS F r) _ q = _
          simp only [jm_c1, if_pos hc, ht]
          rfl
        · cases h
      · rename_i hc
        split at h
        · rename_i off ho
          split at h
          · rename_i t ht
            cases h
            refine ⟨⟨[], (List.append_nil _).symm⟩, ⟨[], (List.append_nil _).symm⟩, fun F X1 X2 hp => ?_⟩
            refine jm_step_c1 rfl rfl (by unfold jm_b1; split <;> rfl) ?_
            show jm_c1 _ _ pc (sy_dL F L) (.int v :: sy_dS F r) _ q = _
            simp only [jm_c1, if_neg hc, ho, ht]
            rfl
          · cases h
        · cases h
    · rename_i a r
      split at h
      · rename_i hfit
        split at h
        · rename_i b O1 t hO ht
          cases h
          refine ⟨⟨[], (List.append_nil _).symm⟩, ⟨_, rfl⟩, fun F X1 X2 hp => ?_⟩
          have h1 := hp _ (List.mem_append_right _ List.mem_cons_self)
          refine jm_step_c1 rfl rfl (by unfold jm_b1; split <;> rfl) ?_
          show jm_c1 _ _ pc (sy_dL F L) (.int (sy_i F a) :: sy_dS F r) _ q = _
          rw [jm_c1]
          rw [if_pos, ht]
          · rfl
          · cases b with
            | true =>
              left
              have h2 : sy_i F a < Int32.ofInt lo := h1
              rw [Int32.lt_iff_toInt_lt, hfit.1] at h2
              exact h2
            | false =>
              right
              have h2 : Int32.ofInt hi < sy_i F a := h1
              rw [Int32.lt_iff_toInt_lt, hfit.2] at h2
              exact h2
        · cases h
      · cases h
    · cases h
  · cases h
  · cases h
end SY3
end
section
/-! ===== the heap, with symbols ===== -/
def sy_gt (G : sy_h) (k : Nat) : Option sy_c := if k < 8 then none else if k < 1000 then (match G.1 with
    | .inl l => l[k - 8]?
    | .inr _ => none) else (match G.2 with
    | .inl l => l[k - 1000]?
    | .inr _ => none)
def sy_sg (g : sy_g) (i : Nat) (c : sy_c) : sy_g := match g with
  | .inl l => .inl (l.set i c)
  | .inr u => .inr u
def sy_st (G : sy_h) (k : Nat) (c : sy_c) : sy_h := if k < 1000 then (sy_sg G.1 (k - 8) c, G.2) else (G.1, sy_sg G.2 (k - 1000) c)
theorem sy_gt_ok {F : Nat → sy_d} {X1 X2 : List jm_c} {G : sy_h} {k : Nat} {c : sy_c} (h : sy_gt G k = some c) : jm_g (sy_dh F X1 X2 G) k = some (sy_dc F c) := by
  unfold sy_gt at h
  unfold jm_g
  split at h
  · cases h
  · rename_i h8
    rw [if_neg h8]
    split at h
    · rename_i h9
      rw [if_pos h9]
      split at h
      · rename_i l hl
        simp only [sy_dh, sy_dg, hl, List.getElem?_map, h, Option.map_some]
      · cases h
    · rename_i h9
      rw [if_neg h9]
      split at h
      · rename_i l hl
        simp only [sy_dh, sy_dg, hl, List.getElem?_map, h, Option.map_some]
      · cases h
theorem sy_st_ok {F : Nat → sy_d} {X1 X2 : List jm_c} {G : sy_h} {k : Nat} {c0 c : sy_c} (h : sy_gt G k = some c0) : jm_s (sy_dh F X1 X2 G) k (sy_dc F c) = sy_dh F X1 X2 (sy_st G k c) := by
  unfold sy_gt at h
  unfold jm_s sy_st
  split at h
  · cases h
  · split at h
    · rename_i h9
      rw [if_pos h9, if_pos h9]
      split at h
      · rename_i l hl
        simp only [sy_dh, sy_dg, hl, sy_sg, List.map_set]
      · cases h
    · rename_i h9
      rw [if_neg h9, if_neg h9]
      split at h
      · rename_i l hl
        simp only [sy_dh, sy_dg, hl, sy_sg, List.map_set]
      · cases h
/-- arrays of ints, of longs -/
def sy_ak (a : sy_a) : Nat := match a with
  | .inl (.inl _) => 0
  | .inl (.inr _) => 1
  | .inr (.inl _) => 0
  | .inr (.inr _) => 1
theorem sy_ak0 {F : Nat → sy_d} {a : sy_a} (h : sy_ak a = 0) : ∃ l, sy_da F a = .inl l := by
  unfold sy_ak at h
  split at h <;> first | exact ⟨_, rfl⟩ | (exfalso; omega)
theorem sy_ak1 {F : Nat → sy_d} {a : sy_a} (h : sy_ak a = 1) : ∃ l, sy_da F a = .inr l := by
  unfold sy_ak at h
  split at h <;> first | exact ⟨_, rfl⟩ | (exfalso; omega)
theorem sy_ak01 (a : sy_a) : sy_ak a = 0 ∨ sy_ak a = 1 := by
  unfold sy_ak
  split <;> simp
/-- what an array of which the writes are known holds at a place -/
def sy_rs (nv : Nat) (T : List sy_e) : Nat → sy_a → Nat → Option sy_v
  | 0, _, _ => none
  | n + 1, a, i => match a with
    | .inl (.inl l) => some (.inl (.int (l.getD i 0)))
    | .inl (.inr l) => some (.inl (.long (l.getD i 0)))
    | .inr (.inl k) => if nv ≤ k then (match T[k - nv]? with
      | some (_, [.inl (.int j), x], [b]) => if sy_ak b = 0 ∧ sy_ty x = 0 then (if j.toNatClampNeg = i then some x else sy_rs nv T n b i) else none
      | _ => none) else none
    | .inr (.inr k) => if nv ≤ k then (match T[k - nv]? with
      | some (_, [.inl (.int j), x], [b]) => if sy_ak b = 1 ∧ sy_ty x = 1 then (if j.toNatClampNeg = i then some x else sy_rs nv T n b i) else none
      | _ => none) else none
theorem sy_rs_ok {F : Nat → sy_d} {nv : Nat} {T : List sy_e} (hs : sy_sat F nv T) : ∀ (n : Nat) (a : sy_a) (i : Nat) (x : sy_v) (v : Int32), sy_rs nv T n a i = some x → v.toNatClampNeg = i → sy_rd (sy_da F a) (.int v) = sy_dv F x := by
  intro n
  induction n with
  | zero => intro a i x v h; cases h
  | succ n ih =>
    intro a i x v h hv
    unfold sy_rs at h
    split at h
    · cases h
      subst hv
      rfl
    · cases h
      subst hv
      rfl
    · rename_i k
      split at h
      · rename_i hk
        split at h
        · rename_i op j y b hT
          split at h
          · rename_i hc
            have he := hs (k - nv) _ hT
            rw [show nv + (k - nv) = k by omega] at he
            obtain ⟨lb, hlb⟩ := sy_ak0 (F := F) hc.1
            obtain ⟨z, hz⟩ := sy_ty0 (F := F) hc.2
            have hF : sy_ai F k = jm_upd lb j.toNatClampNeg z := by
              simp [sy_ai, he, sy_sem, hlb, hz, sy_dvl, sy_up]
            have hL : sy_rd (sy_da F (.inr (.inl k))) (.int v) = .int ((jm_upd lb j.toNatClampNeg z).getD v.toNatClampNeg 0) := by
              simp only [sy_da, sy_rd, hF]
            rw [hL, jm_upd_at]
            split at h
            · rename_i hji
              cases h
              rw [if_pos (by rw [hv, hji]), hz]
            · rename_i hji
              rw [if_neg (by rw [hv]; exact fun e => hji e.symm)]
              have := ih b i x v h hv
              rw [hlb] at this
              exact this
          · cases h
        · cases h
      · cases h
    · rename_i k
      split at h
      · rename_i hk
        split at h
        · rename_i op j y b hT
          split at h
          · rename_i hc
            have he := hs (k - nv) _ hT
            rw [show nv + (k - nv) = k by omega] at he
            obtain ⟨lb, hlb⟩ := sy_ak1 (F := F) hc.1
            obtain ⟨z, hz⟩ := sy_ty1 (F := F) hc.2
            have hF : sy_al F k = jm_updL lb j.toNatClampNeg z := by
              simp [sy_al, he, sy_sem, hlb, hz, sy_dvl, sy_up]
            have hL : sy_rd (sy_da F (.inr (.inr k))) (.int v) = .long ((jm_updL lb j.toNatClampNeg z).getD v.toNatClampNeg 0) := by
              simp only [sy_da, sy_rd, hF]
            rw [hL, jm_updL_at]
            split at h
            · rename_i hji
              cases h
              rw [if_pos (by rw [hv, hji]), hz]
            · rename_i hji
              rw [if_neg (by rw [hv]; exact fun e => hji e.symm)]
              have := ih b i x v h hv
              rw [hlb] at this
              exact this
          · cases h
        · cases h
      · cases h
/-- a place read -/
def sy_re (nv : Nat) (a : sy_a) (i : sy_v) (T : List sy_e) : sy_v × List sy_e :=
  match (match i with
    | .inl (.int v) => sy_rs nv T 100 a v.toNatClampNeg
    | _ => none) with
  | some x => (x, T)
  | none => (if sy_ak a = 0 then .inr (.inl (nv + T.length)) else .inr (.inr (nv + T.length)), T ++ [(30, [i], [a])])
theorem sy_re_pre {nv : Nat} {a : sy_a} {i z : sy_v} {T T1 : List sy_e} (h : sy_re nv a i T = (z, T1)) : ∃ r, T1 = T ++ r := by
  unfold sy_re at h
  split at h <;> cases h
  · exact ⟨[], (List.append_nil _).symm⟩
  · exact ⟨_, rfl⟩
theorem sy_re_ok {F : Nat → sy_d} {nv : Nat} {a : sy_a} {i z : sy_v} {T T1 r : List sy_e} {v : Int32} (h : sy_re nv a i T = (z, T1)) (hs : sy_sat F nv (T1 ++ r)) (hi : sy_dv F i = .int v) : sy_dv F z = sy_rd (sy_da F a) (.int v) := by
  unfold sy_re at h
  split at h
  · rename_i x hx
    cases h
    split at hx
    · rename_i w
      cases hi
      exact (sy_rs_ok (sy_sat_pre hs) 100 a _ z v hx rfl).symm
    · cases hx
  · cases h
    rcases sy_ak01 a with e | e
    · obtain ⟨l, hl⟩ := sy_ak0 (F := F) e
      have := sy_new (ty := sy_ak a) (v := sy_rd (sy_da F a) (.int v)) hs (by simp [sy_sem, hi]) (Or.inl ⟨e, _, by rw [hl]; rfl⟩)
      exact this
    · obtain ⟨l, hl⟩ := sy_ak1 (F := F) e
      have := sy_new (ty := sy_ak a) (v := sy_rd (sy_da F a) (.int v)) hs (by simp [sy_sem, hi]) (Or.inr ⟨by omega, _, by rw [hl]; rfl⟩)
      exact this
/-- a place written -/
def sy_wr (nv : Nat) (a : sy_a) (i x : sy_v) (T : List sy_e) : sy_a × List sy_e := match a, i, x with
  | .inl l, .inl v, .inl w => (.inl (sy_up l v w), T)
  | _, _, _ => (if sy_ak a = 0 then .inr (.inl (nv + T.length)) else .inr (.inr (nv + T.length)), T ++ [(40, [i, x], [a])])
theorem sy_wr_pre {nv : Nat} {a b : sy_a} {i x : sy_v} {T T1 : List sy_e} (h : sy_wr nv a i x T = (b, T1)) : ∃ r, T1 = T ++ r := by
  unfold sy_wr at h
  split at h <;> cases h
  · exact ⟨[], (List.append_nil _).symm⟩
  · exact ⟨_, rfl⟩
theorem sy_wr_ok {F : Nat → sy_d} {nv : Nat} {a b : sy_a} {i x : sy_v} {T T1 r : List sy_e} (h : sy_wr nv a i x T = (b, T1)) (hs : sy_sat F nv (T1 ++ r)) : sy_da F b = sy_up (sy_da F a) (sy_dv F i) (sy_dv F x) := by
  unfold sy_wr at h
  split at h
  · cases h; rfl
  · cases h
    have he := sy_sat_last hs
    have hsem : sy_sem F (40, [i, x], [a]) = .inr (sy_up (sy_da F a) (sy_dv F i) (sy_dv F x)) := rfl
    rw [hsem] at he
    rcases sy_ak01 a with e | e
    · obtain ⟨l, hl⟩ := sy_ak0 (F := F) e
      rw [if_pos e]
      have h2 : ∃ l2, sy_up (sy_da F a) (sy_dv F i) (sy_dv F x) = .inl l2 := by
        rw [hl]
        unfold sy_up
        split <;> first | exact ⟨_, rfl⟩ | (rename_i h3 _ _; cases h3) | (rename_i h3; cases h3)
      obtain ⟨l2, h2⟩ := h2
      rw [h2] at he ⊢
      simp [sy_da, sy_ai, he]
    · obtain ⟨l, hl⟩ := sy_ak1 (F := F) e
      rw [if_neg (by omega)]
      have h2 : ∃ l2, sy_up (sy_da F a) (sy_dv F i) (sy_dv F x) = .inr l2 := by
        rw [hl]
        unfold sy_up
        split <;> first | exact ⟨_, rfl⟩ | (rename_i h3 _ _; cases h3) | (rename_i h3; cases h3)
      obtain ⟨l2, h2⟩ := h2
      rw [h2] at he ⊢
      simp [sy_da, sy_al, he]
/-- an index within -/
def sy_bd (i : sy_v) (N : Nat) (P : List sy_p) : Option (List sy_p) := match i with
  | .inl (.int v) => bif jm_out v N then none else some P
  | .inr (.inl k) => some (P ++ [(6, .inr (.inl k), .inl (.ref N))])
  | _ => none
theorem sy_bd_ok {i : sy_v} {N : Nat} {P P1 : List sy_p} (h : sy_bd i N P = some P1) : (∃ r, P1 = P ++ r) ∧ ∀ F : Nat → sy_d, (∀ p ∈ P1, sy_ps F p) → ∃ v, sy_dv F i = .int v ∧ jm_out v N = false := by
  unfold sy_bd at h
  split at h
  · rename_i v
    cases ho : jm_out v N with
    | true => rw [ho] at h; cases h
    | false =>
      rw [ho] at h
      cases h
      exact ⟨⟨[], (List.append_nil _).symm⟩, fun F _ => ⟨v, rfl, ho⟩⟩
  · rename_i k
    cases h
    exact ⟨⟨_, rfl⟩, fun F hp => ⟨sy_i F k, rfl, hp _ (List.mem_append_right _ List.mem_cons_self)⟩⟩
  · cases h
/-- a value that a field of a type may hold -/
def sy_pv (tc : Nat) (v : sy_v) (P : List sy_p) : Option (List sy_p) := match v with
  | .inl w => bif jm_pv tc w then some P else none
  | .inr (.inl k) => if tc = 0 then some P else if tc = 1 then some (P ++ [(6, .inr (.inl k), .inl (.int 0))]) else none
  | .inr (.inr _) => if tc = 2 then some P else none
theorem sy_pv_ok {tc : Nat} {v : sy_v} {P P1 : List sy_p} (h : sy_pv tc v P = some P1) : (∃ r, P1 = P ++ r) ∧ ∀ F : Nat → sy_d, (∀ p ∈ P1, sy_ps F p) → jm_pv tc (sy_dv F v) = true := by
  unfold sy_pv at h
  split at h
  · rename_i w
    cases ho : jm_pv tc w with
    | false => rw [ho] at h; cases h
    | true =>
      rw [ho] at h
      cases h
      exact ⟨⟨[], (List.append_nil _).symm⟩, fun F _ => ho⟩
  · rename_i k
    split at h
    · rename_i h0
      cases h
      exact ⟨⟨[], (List.append_nil _).symm⟩, fun F _ => by simp [sy_dv, jm_pv, h0]⟩
    · split at h
      · rename_i h1
        cases h
        refine ⟨⟨_, rfl⟩, fun F hp => ?_⟩
        have h2 : sy_i F k = 0 ∨ sy_i F k = 1 := hp _ (List.mem_append_right _ List.mem_cons_self)
        simp only [sy_dv, jm_pv, h1]
        rcases h2 with e | e <;> rw [e] <;> decide
      · cases h
  · split at h
    · rename_i h2
      cases h
      exact ⟨⟨[], (List.append_nil _).symm⟩, fun F _ => by simp [sy_dv, jm_pv, h2]⟩
    · cases h
end
section
/-! ===== fields and arrays, with symbols; the whole step ===== -/
def sy_4 (nv : Nat) (e : jm_I) (pc : Nat) (L : List (Option sy_v)) (S : List sy_v) (G : sy_h) (q : Nat × Nat) (x : sy_x) : Option (sy_St × sy_x) := match e.1 with
  | .getfield _ => if e.2.1 = 3 then (match S with
    | .inl (.ref a) :: r => if e.2.2.1 = 100 then (if a = 4 then some ((pc + 3, L, .inl (if e.2.2.2.1 = 0 then .int 0 else .ref 5) :: r, G, q), x) else none) else (match sy_gt G a with
      | some (.inr (ci, fs)) => if ci = e.2.2.1 then (match fs[e.2.2.2.1]? with
        | some v => some ((pc + 3, L, v :: r, G, q), x)
        | none => none) else none
      | _ => none)
    | _ => none) else none
  | .putfield _ => if e.2.1 = 3 then (match S with
    | v :: .inl (.ref a) :: r => (match sy_gt G a with
      | some (.inr (ci, fs)) => if ci = e.2.2.1 ∧ e.2.2.2.1 % 1000 < fs.length then (match sy_pv (e.2.2.2.1 / 1000 % 10) v x.2.1 with
        | some P1 => some ((pc + 3, L, r, sy_st G a (.inr (ci, fs.set (e.2.2.2.1 % 1000) v)), q), x.1, P1, x.2.2)
        | none => none) else none
      | _ => none)
    | _ => none) else none
  | .getstatic _ => if e.2.1 = 3 then (if e.2.2.1 = 3 then some ((pc + 3, L, .inl (.int 1) :: S, G, q), x) else if e.2.2.1 = 4 then some ((pc + 3, L, .inl (.ref 6) :: S, G, q), x) else if e.2.2.1 < 3 then some ((pc + 3, L, .inl (.ref (1 + e.2.2.1)) :: S, G, q), x) else none) else none
  | .ldc _ => if e.2.1 = 2 then some ((pc + 2, L, .inl (if e.2.2.2.1 = 0 then .int (Int32.ofNat e.2.2.1) else .ref 4) :: S, G, q), x) else none
  | .ldc_w _ => if e.2.1 = 3 then some ((pc + 3, L, .inl (.int (Int32.ofNat e.2.2.1)) :: S, G, q), x) else none
  | .ldc2_w _ => if e.2.1 = 3 then some ((pc + 3, L, .inl (.long (Int64.ofNat e.2.2.1)) :: S, G, q), x) else none
  | _ => none
def sy_5 (nv mx : Nat) (e : jm_I) (pc : Nat) (L : List (Option sy_v)) (S : List sy_v) (G : sy_h) (q : Nat × Nat) (x : sy_x) : Option (sy_St × sy_x) := match e.1 with
  | .iaload => if e.2.1 = 1 then (match S with
    | i :: .inl (.ref a) :: r => if a < 8 then (match i, jm_ea 0 (fun _ => 0) a with
        | .inl (.int v), some (kd, N, f) => if kd = 0 ∧ ¬ a = 0 then (bif jm_out v N then none else some ((pc + 1, L, .inl (.int (f v.toNatClampNeg)) :: r, G, q), x)) else none
        | _, _ => none)
      else (match sy_gt G a with
        | some (.inl (kd, N, c)) => if kd = 0 ∧ sy_ak c = 0 then (match sy_bd i N x.2.1 with
          | some P1 => some ((pc + 1, L, (sy_re nv c i x.1).1 :: r, G, q), (sy_re nv c i x.1).2, P1, x.2.2)
          | none => none) else none
        | _ => none)
    | _ => none) else none
  | .baload => if e.2.1 = 1 then (match S with
    | i :: .inl (.ref a) :: r => (match sy_gt G a with
        | some (.inl (kd, N, c)) => if (kd = 1 ∨ kd = 2) ∧ sy_ak c = 0 ∧ ¬ a < 8 then (match sy_bd i N x.2.1 with
          | some P1 => some ((pc + 1, L, (sy_re nv c i x.1).1 :: r, G, q), (sy_re nv c i x.1).2, P1, x.2.2)
          | none => none) else none
        | _ => none)
    | _ => none) else none
  | .laload => if e.2.1 = 1 then (match S with
    | i :: .inl (.ref a) :: r => (match sy_gt G a with
        | some (.inl (kd, N, c)) => if kd = 3 ∧ sy_ak c = 1 then (match sy_bd i N x.2.1 with
          | some P1 => some ((pc + 1, L, (sy_re nv c i x.1).1 :: r, G, q), (sy_re nv c i x.1).2, P1, x.2.2)
          | none => none) else none
        | _ => none)
    | _ => none) else none
  | .iastore => if e.2.1 = 1 then (match S with
    | v :: i :: .inl (.ref a) :: r => (match sy_gt G a with
        | some (.inl (kd, N, c)) => if kd = 0 ∧ sy_ak c = 0 ∧ sy_ty v = 0 then (match sy_bd i N x.2.1 with
          | some P1 => some ((pc + 1, L, r, sy_st G a (.inl (0, N, (sy_wr nv c i v x.1).1)), q), (sy_wr nv c i v x.1).2, P1, x.2.2)
          | none => none) else none
        | _ => none)
    | _ => none) else none
  | .bastore => if e.2.1 = 1 then (match S with
    | v :: i :: .inl (.ref a) :: r => (match sy_gt G a with
        | some (.inl (kd, N, c)) => if (kd = 1 ∨ kd = 2) ∧ sy_ak c = 0 ∧ sy_ty v = 0 then (match sy_bd i N x.2.1, sy_a1 nv (if kd = 1 then 22 else 24) 0 v x.1 with
          | some P1, (w, T1) => some ((pc + 1, L, r, sy_st G a (.inl (kd, N, (sy_wr nv c i w T1).1)), q), (sy_wr nv c i w T1).2, P1, x.2.2)
          | none, _ => none) else none
        | _ => none)
    | _ => none) else none
  | .lastore => if e.2.1 = 1 then (match S with
    | v :: i :: .inl (.ref a) :: r => (match sy_gt G a with
        | some (.inl (kd, N, c)) => if kd = 3 ∧ sy_ak c = 1 ∧ sy_ty v = 1 then (match sy_bd i N x.2.1 with
          | some P1 => some ((pc + 1, L, r, sy_st G a (.inl (3, N, (sy_wr nv c i v x.1).1)), q), (sy_wr nv c i v x.1).2, P1, x.2.2)
          | none => none) else none
        | _ => none)
    | _ => none) else none
  | .arraylength => if e.2.1 = 1 then (match S with
    | .inl (.ref a) :: r => if a < 8 then none else (match sy_gt G a with
        | some (.inl (kd, N, _)) => if kd < 4 then some ((pc + 1, L, .inl (.int (Int32.ofNat N)) :: r, G, q), x) else none
        | _ => none)
    | _ => none) else none
  | .iinc k d => if e.2.1 = 3 ∧ k < mx then (match sy_ld L k with
    | some v => if sy_ty v = 0 then some ((pc + 3, sy_st1 L k (sy_a2 nv 0 0 v (.inl (.int (Int32.ofInt d))) x.1).1, S, G, q), (sy_a2 nv 0 0 v (.inl (.int (Int32.ofInt d))) x.1).2, x.2) else none
    | none => none) else none
  | .invokestatic _ => if e.2.1 = 3 ∧ e.2.2.2.1 = 2 then (match S with
    | .inl (.int n) :: .inl (.int dp) :: .inl (.ref a1) :: .inl (.int sp) :: .inl (.ref a0) :: r => (match sy_gt G a0, sy_gt G a1 with
      | some (.inl (k0, n0, f)), some (.inl (k1, n1, g)) => if (k0 = 0 ∧ k1 = 0 ∧ sy_ak f = 0 ∧ sy_ak g = 0) ∧ (¬ sp < 0 ∧ ¬ dp < 0 ∧ ¬ n < 0) ∧ (sp.toNatClampNeg + n.toNatClampNeg ≤ n0 ∧ dp.toNatClampNeg + n.toNatClampNeg ≤ n1) ∧ (r.map sy_cat).sum ≤ 8 then (match f, g with
          | .inl f0, .inl g0 => some ((pc + 3, L, r, sy_st G a1 (.inl (0, n1, .inl (sy_cp f0 g0 (.int sp) (.int dp) (.int n)))), q), x)
          | _, _ => some ((pc + 3, L, r, sy_st G a1 (.inl (0, n1, .inr (.inl (nv + x.1.length)))), q), x.1 ++ [(42, [.inl (.int sp), .inl (.int dp), .inl (.int n)], [f, g])], x.2)) else none
      | _, _ => none)
    | _ => none) else none
  | _ => none
section SY4
variable {M : jm_M} {Ls : Nat} {xs : Nat → Int32} {bc bs : Nat} {i : jm_I} {pc nv : Nat} {L : List (Option sy_v)} {S : List sy_v} {G : sy_h} {q : Nat × Nat} {st : sy_St} {x y : sy_x}
set_option maxHeartbeats 8000000 in
theorem sy_4_ok (h : sy_4 nv i pc L S G q x = some (st, y)) : (∃ r, y.1 = x.1 ++ r) ∧ (∃ r, y.2.1 = x.2.1 ++ r) ∧ ∀ (F : Nat → sy_d) (X1 X2 : List jm_c), (∀ p ∈ y.2.1, sy_ps F p) →
    jm_step M Ls xs bc bs i pc (sy_dL F L) (sy_dS F S) (sy_dh F X1 X2 G) q = some (sy_ds F X1 X2 st) := by
  obtain ⟨ins, n, la, lb, po⟩ := i
  unfold sy_4 at h
  dsimp only at h
  split at h
  · split at h
    · rename_i hn
      subst hn
      split at h
      · rename_i a r
        split at h
        · rename_i h100
          split at h
          · rename_i ha
            cases h
            refine ⟨⟨[], (List.append_nil _).symm⟩, ⟨[], (List.append_nil _).symm⟩, fun F X1 X2 hp => jm_step_d1 rfl ?_⟩
            show jm_d1 _ pc (sy_dL F L) (.ref a :: sy_dS F r) _ q = _
            simp only [jm_d1, if_pos h100, if_pos ha]
            rfl
          · cases h
        · rename_i h100
          split at h
          · rename_i ci fs hg
            split at h
            · rename_i hci
              split at h
              · rename_i v hv
                cases h
                refine ⟨⟨[], (List.append_nil _).symm⟩, ⟨[], (List.append_nil _).symm⟩, fun F X1 X2 hp => jm_step_d1 rfl ?_⟩
                show jm_d1 _ pc (sy_dL F L) (.ref a :: sy_dS F r) _ q = _
                simp only [jm_d1, if_neg h100, sy_gt_ok hg, sy_dc, if_pos hci, List.getElem?_map, hv, Option.map_some]
                rfl
              · cases h
            · cases h
          · cases h
      · cases h
    · cases h
  · split at h
    · rename_i hn
      subst hn
      split at h
      · rename_i v a r
        split at h
        · rename_i ci fs hg
          split at h
          · rename_i hc
            split at h
            · rename_i P1 hpv
              cases h
              obtain ⟨k1, k2⟩ := sy_pv_ok hpv
              refine ⟨⟨[], (List.append_nil _).symm⟩, k1, fun F X1 X2 hp => jm_step_d1 rfl ?_⟩
              show jm_d1 _ pc (sy_dL F L) (sy_dv F v :: .ref a :: sy_dS F r) _ q = _
              have hcond : ci = la ∧ lb % 1000 < (fs.map (sy_dv F)).length ∧ jm_pv (lb / 1000 % 10) (sy_dv F v) = true := ⟨hc.1, by simpa using hc.2, k2 F hp⟩
              simp only [jm_d1, sy_gt_ok hg, sy_dc, if_pos hcond, if_pos]
              have : (.inr (ci, (fs.map (sy_dv F)).set (lb % 1000) (sy_dv F v)) : jm_c) = sy_dc F (.inr (ci, fs.set (lb % 1000) v)) := by simp only [sy_dc, List.map_set]
              rw [this, sy_st_ok hg]
              rfl
            · cases h
          · cases h
        · cases h
      · cases h
    · cases h
  · split at h
    · rename_i hn
      subst hn
      split at h
      · rename_i h3
        cases h
        refine ⟨⟨[], (List.append_nil _).symm⟩, ⟨[], (List.append_nil _).symm⟩, fun F X1 X2 hp => jm_step_d1 rfl ?_⟩
        simp only [jm_d1, if_pos h3]
        rfl
      · rename_i h3
        split at h
        · rename_i h4
          cases h
          refine ⟨⟨[], (List.append_nil _).symm⟩, ⟨[], (List.append_nil _).symm⟩, fun F X1 X2 hp => jm_step_d1 rfl ?_⟩
          simp only [jm_d1, if_neg h3, if_pos h4]
          rfl
        · rename_i h4
          split at h
          · rename_i h5
            cases h
            refine ⟨⟨[], (List.append_nil _).symm⟩, ⟨[], (List.append_nil _).symm⟩, fun F X1 X2 hp => jm_step_d1 rfl ?_⟩
            simp only [jm_d1, if_neg h3, if_neg h4, if_pos h5]
            rfl
          · cases h
    · cases h
  · split at h
    · rename_i hn
      subst hn
      cases h
      exact ⟨⟨[], (List.append_nil _).symm⟩, ⟨[], (List.append_nil _).symm⟩, fun F X1 X2 hp => jm_step_d1 rfl rfl⟩
    · cases h
  · split at h
    · rename_i hn
      subst hn
      cases h
      exact ⟨⟨[], (List.append_nil _).symm⟩, ⟨[], (List.append_nil _).symm⟩, fun F X1 X2 hp => jm_step_d1 rfl rfl⟩
    · cases h
  · split at h
    · rename_i hn
      subst hn
      cases h
      exact ⟨⟨[], (List.append_nil _).symm⟩, ⟨[], (List.append_nil _).symm⟩, fun F X1 X2 hp => jm_step_d1 rfl rfl⟩
    · cases h
  · cases h
end SY4
end
section
/-! ===== arrays with symbols, followed; the whole step with symbols ===== -/
theorem sy_ea {Ls : Nat} {xs : Nat → Int32} {a : Nat} (h : ¬ a = 0) : jm_ea Ls xs a = jm_ea 0 (fun _ => 0) a := by
  unfold jm_ea
  rw [if_neg h, if_neg h]
section SY5
variable {M : jm_M} {Ls : Nat} {xs : Nat → Int32} {bc bs : Nat} {i : jm_I} {pc nv : Nat} {L : List (Option sy_v)} {S : List sy_v} {G : sy_h} {q : Nat × Nat} {st : sy_St} {x y : sy_x}
theorem sy_bif {α : Type} {b : Bool} {r : α} {o : Option α} (hb : b = false) (h : o = some r) : (bif b then none else o) = some r := by
  rw [hb]; exact h
set_option maxHeartbeats 8000000 in
theorem sy_5_ok (h : sy_5 nv (jm_mx M) i pc L S G q x = some (st, y)) : (∃ r, y.1 = x.1 ++ r) ∧ (∃ r, y.2.1 = x.2.1 ++ r) ∧ ∀ (F : Nat → sy_d) (X1 X2 : List jm_c) (r : List sy_e), sy_sat F nv (y.1 ++ r) → (∀ p ∈ y.2.1, sy_ps F p) →
    jm_step M Ls xs bc bs i pc (sy_dL F L) (sy_dS F S) (sy_dh F X1 X2 G) q = some (sy_ds F X1 X2 st) := by
  obtain ⟨ins, n, la, lb, po⟩ := i
  unfold sy_5 at h
  dsimp only at h
  split at h
  · split at h
    · rename_i hn
      subst hn
      split at h
      · rename_i i a r
        split at h
        · rename_i ha8
          split at h
          · rename_i v kd N f hea
            split at h
            · rename_i hc
              cases ho : jm_out v N with
              | true => rw [ho] at h; cases h
              | false =>
                rw [ho] at h
                cases h
                refine ⟨⟨[], (List.append_nil _).symm⟩, ⟨[], (List.append_nil _).symm⟩, fun F X1 X2 r2 hs hp => jm_step_d2 rfl rfl rfl rfl rfl ?_⟩
                show jm_d2 M Ls xs bc bs _ pc (sy_dL F L) (.int v :: .ref a :: sy_dS F r) _ q = _
                simp only [jm_d2, if_pos ha8, sy_ea hc.2, hea, if_pos hc.1, if_pos]
                exact sy_bif ho rfl
            · cases h
          · cases h
        · rename_i ha8
          split at h
          · rename_i kd N c hg
            split at h
            · rename_i hc
              split at h
              · rename_i P1 hbd
                cases h
                obtain ⟨k1, k2⟩ := sy_bd_ok hbd
                obtain ⟨⟨z, T1⟩, hz⟩ : ∃ z, sy_re nv c i x.1 = z := ⟨_, rfl⟩
                rw [hz]
                refine ⟨sy_re_pre hz, k1, fun F X1 X2 r2 hs hp => jm_step_d2 rfl rfl rfl rfl rfl ?_⟩
                obtain ⟨v, hv, ho⟩ := k2 F hp
                obtain ⟨l, hl⟩ := sy_ak0 (F := F) hc.2
                have hd := sy_re_ok hz hs hv
                show jm_d2 M Ls xs bc bs _ pc (sy_dL F L) (sy_dv F i :: .ref a :: sy_dS F r) _ q = _
                rw [hv]
                simp only [jm_d2, if_neg ha8, sy_gt_ok hg, sy_dc, hl, if_pos hc.1, if_pos]
                refine sy_bif ho ?_
                simp only [sy_ds, sy_dS, List.map_cons, hd, hl, sy_rd]
              · cases h
            · cases h
          · cases h
      · cases h
    · cases h
  · split at h
    · rename_i hn
      subst hn
      split at h
      · rename_i i a r
        split at h
        · rename_i kd N c hg
          split at h
          · rename_i hc
            split at h
            · rename_i P1 hbd
              cases h
              obtain ⟨k1, k2⟩ := sy_bd_ok hbd
              obtain ⟨⟨z, T1⟩, hz⟩ : ∃ z, sy_re nv c i x.1 = z := ⟨_, rfl⟩
              rw [hz]
              refine ⟨sy_re_pre hz, k1, fun F X1 X2 r2 hs hp => jm_step_d2 rfl rfl rfl rfl rfl ?_⟩
              obtain ⟨v, hv, ho⟩ := k2 F hp
              obtain ⟨l, hl⟩ := sy_ak0 (F := F) hc.2.1
              have hd := sy_re_ok hz hs hv
              show jm_d2 M Ls xs bc bs _ pc (sy_dL F L) (sy_dv F i :: .ref a :: sy_dS F r) _ q = _
              rw [hv]
              simp only [jm_d2, if_neg hc.2.2, sy_gt_ok hg, sy_dc, hl, if_pos hc.1, if_pos]
              refine sy_bif ho ?_
              simp only [sy_ds, sy_dS, List.map_cons, hd, hl, sy_rd]
            · cases h
          · cases h
        · cases h
      · cases h
    · cases h
  · split at h
    · rename_i hn
      subst hn
      split at h
      · rename_i i a r
        split at h
        · rename_i kd N c hg
          split at h
          · rename_i hc
            split at h
            · rename_i P1 hbd
              cases h
              obtain ⟨k1, k2⟩ := sy_bd_ok hbd
              obtain ⟨⟨z, T1⟩, hz⟩ : ∃ z, sy_re nv c i x.1 = z := ⟨_, rfl⟩
              rw [hz]
              refine ⟨sy_re_pre hz, k1, fun F X1 X2 r2 hs hp => jm_step_d2 rfl rfl rfl rfl rfl ?_⟩
              obtain ⟨v, hv, ho⟩ := k2 F hp
              obtain ⟨l, hl⟩ := sy_ak1 (F := F) hc.2
              have hd := sy_re_ok hz hs hv
              show jm_d2 M Ls xs bc bs _ pc (sy_dL F L) (sy_dv F i :: .ref a :: sy_dS F r) _ q = _
              rw [hv]
              simp only [jm_d2, sy_gt_ok hg, sy_dc, hl, if_pos hc.1, if_pos]
              refine sy_bif ho ?_
              simp only [sy_ds, sy_dS, List.map_cons, hd, hl, sy_rd]
            · cases h
          · cases h
        · cases h
      · cases h
    · cases h
  · split at h
    · rename_i hn
      subst hn
      split at h
      · rename_i v i a r
        split at h
        · rename_i kd N c hg
          split at h
          · rename_i hc
            split at h
            · rename_i P1 hbd
              cases h
              obtain ⟨k1, k2⟩ := sy_bd_ok hbd
              obtain ⟨⟨z, T1⟩, hz⟩ : ∃ z, sy_wr nv c i v x.1 = z := ⟨_, rfl⟩
              rw [hz]
              refine ⟨sy_wr_pre hz, k1, fun F X1 X2 r2 hs hp => jm_step_d2 rfl rfl rfl rfl rfl ?_⟩
              obtain ⟨j, hj, ho⟩ := k2 F hp
              obtain ⟨l, hl⟩ := sy_ak0 (F := F) hc.2.1
              obtain ⟨w, hw⟩ := sy_ty0 (F := F) hc.2.2
              have hd := sy_wr_ok hz hs
              rw [hl, hj, hw] at hd
              show jm_d2 M Ls xs bc bs _ pc (sy_dL F L) (sy_dv F v :: sy_dv F i :: .ref a :: sy_dS F r) _ q = _
              rw [hj, hw]
              simp only [jm_d2, sy_gt_ok hg, sy_dc, hl, if_pos hc.1, if_pos]
              refine sy_bif ho ?_
              have : (.inl (0, N, .inl (jm_upd l j.toNatClampNeg w)) : jm_c) = sy_dc F (.inl (0, N, z)) := by simp only [sy_dc, hd]; rfl
              rw [this, sy_st_ok hg]
              rfl
            · cases h
          · cases h
        · cases h
      · cases h
    · cases h
  · split at h
    · rename_i hn
      subst hn
      split at h
      · rename_i v i a r
        split at h
        · rename_i kd N c hg
          split at h
          · rename_i hc
            split at h
            · rename_i P1 w1 T1 hbd hw1
              cases h
              obtain ⟨k1, k2⟩ := sy_bd_ok hbd
              obtain ⟨⟨z, T2⟩, hz⟩ : ∃ z, sy_wr nv c i w1 T1 = z := ⟨_, rfl⟩
              rw [hz]
              have hpre : ∃ r, T2 = x.1 ++ r := by
                obtain ⟨r1, e1⟩ := sy_a1_pre hw1
                obtain ⟨r2, e2⟩ := sy_wr_pre hz
                exact ⟨r1 ++ r2, by rw [e2, e1, List.append_assoc]⟩
              refine ⟨hpre, k1, fun F X1 X2 r2 hs hp => jm_step_d2 rfl rfl rfl rfl rfl ?_⟩
              obtain ⟨j, hj, ho⟩ := k2 F hp
              obtain ⟨l, hl⟩ := sy_ak0 (F := F) hc.2.1
              obtain ⟨w, hw⟩ := sy_ty0 (F := F) hc.2.2
              have hd := sy_wr_ok hz hs
              have hs1 : ∃ r3, sy_sat F nv (T1 ++ r3) := by
                obtain ⟨r3, e3⟩ := sy_wr_pre hz
                refine ⟨r3 ++ r2, ?_⟩
                rw [← List.append_assoc, ← e3]
                exact hs
              obtain ⟨r3, hs1⟩ := hs1
              have hw2 := sy_a1_ok (F := F) hw1 hs1 (Or.inl ⟨rfl, by rw [hw]; rcases hc.1 with e | e <;> subst e <;> exact ⟨_, rfl⟩⟩)
              rw [hw] at hw2
              rw [hl, hj, hw2] at hd
              show jm_d2 M Ls xs bc bs _ pc (sy_dL F L) (sy_dv F v :: sy_dv F i :: .ref a :: sy_dS F r) _ q = _
              rw [hj, hw]
              rcases hc.1 with e | e
              · subst e
                simp only [jm_d2, sy_gt_ok hg, sy_dc, hl, if_pos]
                refine sy_bif ho ?_
                have : (.inl (1, N, .inl (jm_upd l j.toNatClampNeg w.toInt8.toInt32)) : jm_c) = sy_dc F (.inl (1, N, z)) := by simp only [sy_dc, hd]; rfl
                rw [this, sy_st_ok hg]
                rfl
              · subst e
                simp only [jm_d2, sy_gt_ok hg, sy_dc, hl, if_pos]
                show (bif jm_out j N then none else _) = _
                refine sy_bif ho ?_
                have : (.inl (2, N, .inl (jm_upd l j.toNatClampNeg (vp_nar .boolean w))) : jm_c) = sy_dc F (.inl (2, N, z)) := by simp only [sy_dc, hd]; rfl
                rw [this, sy_st_ok hg]
                rfl
            · cases h
          · cases h
        · cases h
      · cases h
    · cases h
  · split at h
    · rename_i hn
      subst hn
      split at h
      · rename_i v i a r
        split at h
        · rename_i kd N c hg
          split at h
          · rename_i hc
            split at h
            · rename_i P1 hbd
              cases h
              obtain ⟨k1, k2⟩ := sy_bd_ok hbd
              obtain ⟨⟨z, T1⟩, hz⟩ : ∃ z, sy_wr nv c i v x.1 = z := ⟨_, rfl⟩
              rw [hz]
              refine ⟨sy_wr_pre hz, k1, fun F X1 X2 r2 hs hp => jm_step_d2 rfl rfl rfl rfl rfl ?_⟩
              obtain ⟨j, hj, ho⟩ := k2 F hp
              obtain ⟨l, hl⟩ := sy_ak1 (F := F) hc.2.1
              obtain ⟨w, hw⟩ := sy_ty1 (F := F) hc.2.2
              have hd := sy_wr_ok hz hs
              rw [hl, hj, hw] at hd
              show jm_d2 M Ls xs bc bs _ pc (sy_dL F L) (sy_dv F v :: sy_dv F i :: .ref a :: sy_dS F r) _ q = _
              rw [hj, hw]
              simp only [jm_d2, sy_gt_ok hg, sy_dc, hl, if_pos hc.1, if_pos]
              refine sy_bif ho ?_
              have : (.inl (3, N, .inr (jm_updL l j.toNatClampNeg w)) : jm_c) = sy_dc F (.inl (3, N, z)) := by simp only [sy_dc, hd]; rfl
              rw [this, sy_st_ok hg]
              rfl
            · cases h
          · cases h
        · cases h
      · cases h
    · cases h
  · split at h
    · rename_i hn
      subst hn
      split at h
      · rename_i a r
        split at h
        · cases h
        · rename_i ha8
          split at h
          · rename_i kd N c hg
            split at h
            · rename_i hk
              cases h
              refine ⟨⟨[], (List.append_nil _).symm⟩, ⟨[], (List.append_nil _).symm⟩, fun F X1 X2 r2 hs hp => jm_step_d2 rfl rfl rfl rfl rfl ?_⟩
              show jm_d2 M Ls xs bc bs _ pc (sy_dL F L) (.ref a :: sy_dS F r) _ q = _
              simp only [jm_d2, if_neg ha8, sy_gt_ok hg, sy_dc, if_pos hk, if_pos]
              rfl
            · cases h
          · cases h
      · cases h
    · cases h
  · rename_i k d
    split at h
    · rename_i hn
      split at h
      · rename_i v hv
        split at h
        · rename_i ht
          cases h
          obtain ⟨⟨z, T1⟩, hz⟩ : ∃ z, sy_a2 nv 0 0 v (.inl (.int (Int32.ofInt d))) x.1 = z := ⟨_, rfl⟩
          rw [hz]
          refine ⟨sy_a2_pre hz, ⟨[], (List.append_nil _).symm⟩, fun F X1 X2 r2 hs hp => jm_step_a2 rfl rfl (by unfold jm_b1; split <;> rfl) rfl ?_⟩
          obtain ⟨a, ha⟩ := sy_ty0 (F := F) ht
          have hd := sy_a2_ok (F := F) hz hs (Or.inl ⟨rfl, by rw [ha]; exact ⟨_, rfl⟩⟩)
          rw [ha] at hd
          simp only [jm_a2, sy_ld_ok, hv, Option.map_some, ha, if_pos hn]
          have : Value.int (a + Int32.ofInt d) = sy_dv F z := hd.symm
          rw [this, sy_st1_ok]
          rfl
        · cases h
      · cases h
    · cases h
  · rename_i idx
    split at h
    · rename_i hn
      split at h
      · rename_i nn dp a1 sp a0 r
        split at h
        · rename_i k0 n0 f k1 n1 g hg0 hg1
          split at h
          · rename_i hc
            have fin : ∀ (F : Nat → sy_d) (X1 X2 : List jm_c) (z : sy_a), sy_da F z = sy_cp (sy_da F f) (sy_da F g) (.int sp) (.int dp) (.int nn) → jm_step M Ls xs bc bs (.invokestatic idx, n, la, lb, po) pc (sy_dL F L) (sy_dS F (.inl (.int nn) :: .inl (.int dp) :: .inl (.ref a1) :: .inl (.int sp) :: .inl (.ref a0) :: r)) (sy_dh F X1 X2 G) q = some (sy_ds F X1 X2 (pc + 3, L, r, sy_st G a1 (.inl (0, n1, z)), q)) := by
              intro F X1 X2 z hzz
              obtain ⟨lf, hlf⟩ := sy_ak0 (F := F) hc.1.2.2.1
              obtain ⟨lg, hlg⟩ := sy_ak0 (F := F) hc.1.2.2.2
              rw [hlf, hlg] at hzz
              refine jm_step_d3 rfl rfl (by unfold jm_b1; split <;> rfl) rfl rfl rfl (by unfold jm_b2; split <;> rfl) ?_
              show jm_d3 _ pc (sy_dL F L) (.int nn :: .int dp :: .ref a1 :: .int sp :: .ref a0 :: sy_dS F r) _ q = _
              have hcs : jm_cs (sy_dS F r) ≤ 8 := by
                have : jm_cs (sy_dS F r) = (r.map sy_cat).sum := by
                  unfold jm_cs sy_dS
                  rw [List.map_map]
                  congr 1
                  exact List.map_congr_left (fun w _ => sy_cat_ok F w)
                rw [this]
                exact hc.2.2.2
              have hcond : (k0 = 0 ∧ k1 = 0) ∧ (¬ sp < 0 ∧ ¬ dp < 0 ∧ ¬ nn < 0) ∧ (sp.toNatClampNeg + nn.toNatClampNeg ≤ n0 ∧ dp.toNatClampNeg + nn.toNatClampNeg ≤ n1) ∧ jm_cs (sy_dS F r) ≤ 8 := ⟨⟨hc.1.1, hc.1.2.1⟩, hc.2.1, hc.2.2.1, hcs⟩
              simp only [jm_d3, if_pos hn, sy_gt_ok hg0, sy_gt_ok hg1, sy_dc, hlf, hlg, if_pos hcond]
              have : (.inl (0, n1, .inl (jm_cpy lf lg sp.toNatClampNeg dp.toNatClampNeg nn.toNatClampNeg)) : jm_c) = sy_dc F (.inl (0, n1, z)) := by simp only [sy_dc, hzz]; rfl
              rw [this, sy_st_ok hg1]
              rfl
            split at h
            · cases h
              exact ⟨⟨[], (List.append_nil _).symm⟩, ⟨[], (List.append_nil _).symm⟩, fun F X1 X2 r2 hs hp => fin F X1 X2 _ rfl⟩
            · cases h
              refine ⟨⟨_, rfl⟩, ⟨[], (List.append_nil _).symm⟩, fun F X1 X2 r2 hs hp => fin F X1 X2 _ ?_⟩
              have he := sy_sat_last hs
              obtain ⟨lf, hlf⟩ := sy_ak0 (F := F) hc.1.2.2.1
              obtain ⟨lg, hlg⟩ := sy_ak0 (F := F) hc.1.2.2.2
              have hsem : sy_sem F (42, [.inl (.int sp), .inl (.int dp), .inl (.int nn)], [f, g]) = .inr (sy_cp (sy_da F f) (sy_da F g) (.int sp) (.int dp) (.int nn)) := rfl
              rw [hsem, hlf, hlg] at he
              rw [hlf, hlg]
              simp only [sy_da, sy_ai, he, sy_cp]
          · cases h
        · cases h
      · cases h
    · cases h
  · cases h
end SY5
def sy_step (nv : Nat) (M : jm_M) (e : jm_I) (pc : Nat) (L : List (Option sy_v)) (S : List sy_v) (G : sy_h) (q : Nat × Nat) (x : sy_x) : Option (sy_St × sy_x) :=
  match sy_1 (jm_mx M) e.1 e.2.1 pc L S G q with
  | some r => some (r, x)
  | none => match sy_4 nv e pc L S G q x with
    | some r => some r
    | none => match sy_2 nv e.1 e.2.1 pc L S G q x with
      | some r => some r
      | none => match sy_3 e.1 e.2.1 pc L S G q x with
        | some r => some r
        | none => sy_5 nv (jm_mx M) e pc L S G q x
theorem sy_step_ok {M : jm_M} {Ls : Nat} {xs : Nat → Int32} {bc bs : Nat} {i : jm_I} {pc nv : Nat} {L : List (Option sy_v)} {S : List sy_v} {G : sy_h} {q : Nat × Nat} {st : sy_St} {x y : sy_x} (h : sy_step nv M i pc L S G q x = some (st, y)) : (∃ r, y.1 = x.1 ++ r) ∧ (∃ r, y.2.1 = x.2.1 ++ r) ∧ ∀ (F : Nat → sy_d) (X1 X2 : List jm_c) (r : List sy_e), sy_sat F nv (y.1 ++ r) → (∀ p ∈ y.2.1, sy_ps F p) →
    jm_step M Ls xs bc bs i pc (sy_dL F L) (sy_dS F S) (sy_dh F X1 X2 G) q = some (sy_ds F X1 X2 st) := by
  obtain ⟨ins, n, la, lb, po⟩ := i
  unfold sy_step at h
  split at h
  · rename_i r h1
    cases h
    exact ⟨⟨[], (List.append_nil _).symm⟩, ⟨[], (List.append_nil _).symm⟩, fun F X1 X2 r hs hp => sy_1_ok h1⟩
  · split at h
    · rename_i r h1
      cases h
      obtain ⟨k1, k2, k3⟩ := sy_4_ok (M := M) (Ls := Ls) (xs := xs) (bc := bc) (bs := bs) h1
      exact ⟨k1, k2, fun F X1 X2 r hs hp => k3 F X1 X2 hp⟩
    · split at h
      · rename_i r h1
        cases h
        exact sy_2_ok h1
      · split at h
        · rename_i r h1
          cases h
          obtain ⟨k1, k2, k3⟩ := sy_3_ok (M := M) (Ls := Ls) (xs := xs) (bc := bc) (bs := bs) (la := la) (lb := lb) (po := po) h1
          exact ⟨k1, k2, fun F X1 X2 r hs hp => k3 F X1 X2 hp⟩
        · exact sy_5_ok h
end
section
/-! ===== runs with symbols: to the method's end, or to a place ===== -/
def sy_e1 : List sy_v → List (Option sy_v)
  | [] => []
  | v :: r => if sy_cat v = 2 then some v :: none :: sy_e1 r else some v :: sy_e1 r
def sy_ent (mx : Nat) (As : List sy_v) : List (Option sy_v) := sy_e1 As ++ List.replicate (mx - (sy_e1 As).length) none
theorem sy_e1_ok (F : Nat → sy_d) : ∀ As : List sy_v, jm_e1 (As.map (sy_dv F)) = sy_dL F (sy_e1 As)
  | [] => rfl
  | v :: r => by
    rw [List.map_cons, jm_e1, sy_e1, sy_cat_ok, sy_e1_ok F r]
    split <;> rfl
theorem sy_ent_ok (F : Nat → sy_d) (mx : Nat) (As : List sy_v) : jm_ent mx (As.map (sy_dv F)) = sy_dL F (sy_ent mx As) := by
  unfold jm_ent sy_ent
  rw [sy_e1_ok]
  unfold sy_dL
  simp
def sy_rf (M : jm_M) (e : jm_I) (S : List sy_v) (P : List sy_p) : Option (Option sy_v × List sy_p) := if e.2.1 = 1 then (match e.1, S with
  | .ireturn, [v] => if sy_ty v = 0 then (match jm_rt M with
    | some .int => some (some v, P)
    | some ty => (match v with
      | .inl w => if narrow ty w = w then some (some v, P) else none
      | _ => if ty = .boolean then some (some v, P ++ [(6, v, .inl (.int 0))]) else none)
    | none => none) else none
  | .lreturn, [v] => if sy_ty v = 1 then (match jm_rt M with
    | some .long => some (some v, P)
    | _ => none) else none
  | .return_, [] => (match jm_rt M with
    | none => some (none, P)
    | _ => none)
  | _, _ => none) else none
set_option maxHeartbeats 4000000 in
theorem sy_rf_ok {M : jm_M} {e : jm_I} {S : List sy_v} {P P1 : List sy_p} {v : Option sy_v} (h : sy_rf M e S P = some (v, P1)) : (∃ r, P1 = P ++ r) ∧ ∀ F : Nat → sy_d, (∀ p ∈ P1, sy_ps F p) → jm_rf M e (sy_dS F S) = some (v.map (sy_dv F)) := by
  obtain ⟨ins, n, la, lb, po⟩ := e
  unfold sy_rf at h
  dsimp only at h
  split at h
  · rename_i hn
    subst hn
    split at h
    · rename_i v0
      split at h
      · rename_i ht
        split at h
        · rename_i hr
          cases h
          refine ⟨⟨[], (List.append_nil _).symm⟩, fun F _ => ?_⟩
          obtain ⟨a, ha⟩ := sy_ty0 (F := F) ht
          simp only [jm_rf, sy_dS, List.map_cons, List.map_nil, ha, hr, if_pos, Option.map_some]
        · rename_i ty hne hr
          split at h
          · rename_i w
            split at h
            · rename_i hw
              cases h
              refine ⟨⟨[], (List.append_nil _).symm⟩, fun F _ => ?_⟩
              obtain ⟨a, ha⟩ := sy_ty0 (F := F) ht
              have hwa : w = .int a := ha
              subst hwa
              simp only [jm_rf, sy_dS, List.map_cons, List.map_nil, sy_dvl, hr, if_pos, hw, Option.map_some]
            · cases h
          · split at h
            · rename_i hb
              cases h
              refine ⟨⟨_, rfl⟩, fun F hp => ?_⟩
              obtain ⟨a, ha⟩ := sy_ty0 (F := F) ht
              have h1 := hp _ (List.mem_append_right _ List.mem_cons_self)
              have h2 : a = 0 ∨ a = 1 := by
                unfold sy_ps at h1
                simp only [ha, sy_dvl] at h1
                simpa using h1
              subst hb
              have hnar : narrow .boolean (.int a) = .int a := by rcases h2 with e | e <;> subst e <;> rfl
              simp only [jm_rf, sy_dS, List.map_cons, List.map_nil, ha, hr, if_pos, Option.map_some]
              rw [if_pos hnar]
            · cases h
        · cases h
      · cases h
    · rename_i v0
      split at h
      · rename_i ht
        split at h
        · rename_i hr
          cases h
          refine ⟨⟨[], (List.append_nil _).symm⟩, fun F _ => ?_⟩
          obtain ⟨a, ha⟩ := sy_ty1 (F := F) ht
          simp only [jm_rf, sy_dS, List.map_cons, List.map_nil, ha, hr, if_pos, Option.map_some]
        · cases h
      · cases h
    · split at h
      · rename_i hr
        cases h
        refine ⟨⟨[], (List.append_nil _).symm⟩, fun F _ => ?_⟩
        simp only [jm_rf, sy_dS, List.map_nil, hr, if_pos, Option.map_none]
      · cases h
    · cases h
  · cases h
def sy_rok (G : sy_h) (M1 : jm_M) (b : Nat) : Bool := if jm_rc M1 = 100 then decide (b = 4) else (match sy_gt G b with
  | some (.inr (ci, _)) => decide (ci = jm_rc M1)
  | _ => false)
def sy_cf (TB : List jm_M) (e : jm_I) (G : sy_h) (S : List sy_v) : Option (jm_M × List sy_v × List sy_v) := match e.1 with
  | .invokestatic _ => if e.2.1 = 3 ∧ e.2.2.2.1 < 2 then (match TB[e.2.2.1]? with
    | some M1 => if jm_kd M1 = 0 ∧ jm_na M1 ≤ S.length ∧ ((S.drop (jm_na M1)).map sy_cat).sum ≤ 8 then some (M1, (S.take (jm_na M1)).reverse, S.drop (jm_na M1)) else none
    | none => none) else none
  | .invokevirtual _ => if e.2.1 = 3 ∧ e.2.2.2.1 < 2 then (match TB[e.2.2.1]? with
    | some M1 => if jm_kd M1 = 1 ∧ jm_na M1 ≤ S.length then (match S.drop (jm_na M1) with
      | .inl (.ref b) :: r => if (r.map sy_cat).sum ≤ 8 ∧ sy_rok G M1 b = true then some (M1, .inl (.ref b) :: (S.take (jm_na M1)).reverse, r) else none
      | _ => none) else none
    | none => none) else none
  | _ => none
theorem sy_cs_ok (F : Nat → sy_d) (r : List sy_v) : jm_cs (r.map (sy_dv F)) = (r.map sy_cat).sum := by
  unfold jm_cs
  rw [List.map_map]
  congr 1
  exact List.map_congr_left (fun w _ => sy_cat_ok F w)
theorem sy_rok_ok {F : Nat → sy_d} {X1 X2 : List jm_c} {G : sy_h} {M1 : jm_M} {b : Nat} (h : sy_rok G M1 b = true) : jm_rok (sy_dh F X1 X2 G) M1 b = true := by
  unfold sy_rok at h
  unfold jm_rok
  split at h
  · rename_i h1
    rw [if_pos h1]
    exact h
  · rename_i h1
    rw [if_neg h1]
    split at h
    · rename_i ci fs hg
      rw [sy_gt_ok hg]
      exact h
    · cases h
set_option maxHeartbeats 4000000 in
theorem sy_cf_ok {TB : List jm_M} {e : jm_I} {G : sy_h} {S As rest : List sy_v} {M1 : jm_M} (h : sy_cf TB e G S = some (M1, As, rest)) (F : Nat → sy_d) (X1 X2 : List jm_c) : jm_cf TB e (sy_dh F X1 X2 G) (sy_dS F S) = some (M1, As.map (sy_dv F), rest.map (sy_dv F)) := by
  obtain ⟨ins, n, la, lb, po⟩ := e
  unfold sy_cf at h
  dsimp only at h
  split at h
  · split at h
    · rename_i hn
      split at h
      · rename_i M2 hM
        split at h
        · rename_i hc
          cases h
          have hcond : jm_kd M1 = 0 ∧ jm_na M1 ≤ (sy_dS F S).length ∧ jm_cs ((sy_dS F S).drop (jm_na M1)) ≤ 8 := by
            refine ⟨hc.1, by simpa [sy_dS] using hc.2.1, ?_⟩
            rw [sy_dS, ← List.map_drop, sy_cs_ok]
            exact hc.2.2
          simp only [jm_cf, if_pos hn, hM, if_pos hcond]
          simp only [sy_dS, List.map_reverse, List.map_take, List.map_drop]
        · cases h
      · cases h
    · cases h
  · split at h
    · rename_i hn
      split at h
      · rename_i M2 hM
        split at h
        · rename_i hc
          split at h
          · rename_i b r hd
            split at h
            · rename_i hc2
              cases h
              have hcond : jm_kd M1 = 1 ∧ jm_na M1 ≤ (sy_dS F S).length := ⟨hc.1, by simpa [sy_dS] using hc.2⟩
              have hd2 : (sy_dS F S).drop (jm_na M1) = .ref b :: rest.map (sy_dv F) := by
                rw [sy_dS, ← List.map_drop, hd]
                rfl
              have hcond2 : jm_cs (rest.map (sy_dv F)) ≤ 8 ∧ jm_rok (sy_dh F X1 X2 G) M1 b = true := ⟨by rw [sy_cs_ok]; exact hc2.1, sy_rok_ok hc2.2⟩
              simp only [jm_cf, if_pos hn, hM, if_pos hcond, hd2, if_pos hcond2]
              simp only [sy_dS, List.map_cons, List.map_reverse, List.map_take, sy_dvl]
            · cases h
          · cases h
        · cases h
      · cases h
    · cases h
  · cases h
/-- a run to the method's end -/
def sy_ev (TB : List jm_M) (nv : Nat) : Nat → Nat → jm_M → Nat → List (Option sy_v) → List sy_v → sy_h → sy_x → Option (Option sy_v × sy_h × sy_x)
  | 0, _, _, _, _, _, _, _ => none
  | n + 1, d, M, pc, L, S, G, x => match jm_in M pc with
    | none => none
    | some e => match sy_step nv M e pc L S G (0, 0) x with
      | some ((pc', L', S', G', _), x') => sy_ev TB nv n d M pc' L' S' G' x'
      | none => match sy_rf M e S x.2.1 with
        | some (v, P1) => some (v, G, x.1, P1, x.2.2)
        | none => match d with
          | 0 => none
          | d' + 1 => match sy_cf TB e G S with
            | some (M1, As, rest) => if (sy_e1 As).length ≤ jm_mx M1 then (match sy_ev TB nv n d' M1 0 (sy_ent (jm_mx M1) As) [] G x with
              | some (v, G1, x1) => sy_ev TB nv n d M (pc + 3) L (v.toList ++ rest) G1 x1
              | none => none) else none
            | none => none
theorem sy_q {nv : Nat} {M : jm_M} {e : jm_I} {pc : Nat} {L : List (Option sy_v)} {S : List sy_v} {G : sy_h} {q : Nat × Nat} {x y : sy_x} {st : sy_St} (h : sy_step nv M e pc L S G q x = some (st, y)) : st.2.2.2.2 = q := by
  obtain ⟨k1, k2, k3⟩ := sy_step_ok (M := M) (Ls := 0) (xs := fun _ => 0) (bc := 0) (bs := 0) h
  unfold sy_step at h
  have tac1 : ∀ {r : sy_St}, sy_1 (jm_mx M) e.1 e.2.1 pc L S G q = some r → r.2.2.2.2 = q := by
    intro r h
    unfold sy_1 at h
    repeat' split at h
    all_goals first | (cases h; rfl) | cases h
  have tac4 : ∀ {r : sy_St × sy_x}, sy_4 nv e pc L S G q x = some r → r.1.2.2.2.2 = q := by
    intro r h
    unfold sy_4 at h
    repeat' split at h
    all_goals first | (cases h; rfl) | cases h
  have tac2 : ∀ {r : sy_St × sy_x}, sy_2 nv e.1 e.2.1 pc L S G q x = some r → r.1.2.2.2.2 = q := by
    intro r h
    unfold sy_2 at h
    repeat' split at h
    all_goals first | (cases h; rfl) | cases h
  have tac3 : ∀ {r : sy_St × sy_x}, sy_3 e.1 e.2.1 pc L S G q x = some r → r.1.2.2.2.2 = q := by
    intro r h
    unfold sy_3 at h
    repeat' split at h
    all_goals first | (cases h; rfl) | cases h
  have tac5 : ∀ {r : sy_St × sy_x}, sy_5 nv (jm_mx M) e pc L S G q x = some r → r.1.2.2.2.2 = q := by
    intro r h
    unfold sy_5 at h
    repeat' split at h
    all_goals first | (cases h; rfl) | cases h | (unfold cond at h; split at h <;> first | (cases h; rfl) | cases h)
  split at h
  · rename_i r h1; cases h; exact tac1 h1
  · split at h
    · rename_i r h1; cases h; exact tac4 h1
    · split at h
      · rename_i r h1; cases h; exact tac2 h1
      · split at h
        · rename_i r h1; cases h; exact tac3 h1
        · exact tac5 h
set_option maxHeartbeats 4000000 in
theorem sy_ev_ok {TB : List jm_M} {YN : List MethodName} {nv : Nat} {Ls : Nat} {xs : Nat → Int32} (hTB : ∀ (k : Nat) (M' : jm_M), TB[k]? = some M' → jm_ok YN M') (hYN : YN = TB.map jm_y) :
    ∀ (n d : Nat) (M : jm_M) (pc : Nat) (L : List (Option sy_v)) (S : List sy_v) (G : sy_h) (x : sy_x) (v : Option sy_v) (G1 : sy_h) (y : sy_x), jm_tck YN M 0 (jm_tb M) = true → sy_ev TB nv n d M pc L S G x = some (v, G1, y) →
      (∃ r, y.1 = x.1 ++ r) ∧ (∃ r, y.2.1 = x.2.1 ++ r) ∧ ∀ (F : Nat → sy_d) (X1 X2 : List jm_c) (r : List sy_e), sy_sat F nv (y.1 ++ r) → (∀ p ∈ y.2.1, sy_ps F p) →
      ∀ {p : Program} {l : Launch} {e : Env} {s : State} {m : MethodId} {args : Array Value} {below : List Frame} {meth : Method} {c : Code} {D : va_G} {h0 : Nat} {ex : Nat → Nat} {ka : Nat → ClassId} {G0 : jm_h} {Post : Option Value → jm_h → Prop}, jm_C p s m args meth c D h0 ex ka Ls xs M (jm_len G0) → Post (v.map (sy_dv F)) (sy_dh F X1 X2 G1) →
      jm_W p l e (jm_room (d + 1) 0 0) s m args below meth c D h0 ex ka M (jm_len G0) (MQ below (jm_Qc D h0 ex ka 0 G0 Post) args s 0 0 (fun q => h0 ≤ q)) (pc, sy_dL F L, sy_dS F S, sy_dh F X1 X2 G, 0, 0) := by
  intro n
  induction n with
  | zero => intro d M pc L S G x v G1 y _ h; cases h
  | succ n ih =>
    intro d M pc L S G x v G1 y htc h
    rw [sy_ev] at h
    split at h
    · cases h
    · rename_i i hi
      have hc := jm_in_ck htc hi
      split at h
      · rename_i pc' L' S' G' q' x' hst
        have hq : q' = (0, 0) := sy_q hst
        subst hq
        obtain ⟨⟨r1, a1⟩, ⟨r2, a2⟩, a3⟩ := sy_step_ok (M := M) (Ls := Ls) (xs := xs) (bc := 0) (bs := 0) hst
        obtain ⟨⟨r3, b1⟩, ⟨r4, b2⟩, b3⟩ := ih d M pc' L' S' G' x' v G1 y htc h
        refine ⟨⟨r1 ++ r3, by rw [b1, a1, List.append_assoc]⟩, ⟨r2 ++ r4, by rw [b2, a2, List.append_assoc]⟩, ?_⟩
        intro F X1 X2 r hs hp p l e s m args below meth c D h0 ex ka G0 Post C0 hP
        refine jm_step_ok C0 (Nat.le_refl 0) (Nat.le_refl 0) (show 1 ≤ d + 1 by omega) (show 64 ≤ 64 * (d + 1) by omega) hc (a3 F X1 X2 (r3 ++ r) ?_ (fun z hz => hp z (by rw [b2]; exact List.mem_append_left _ hz))) (b3 F X1 X2 r hs hp C0 hP)
        rw [← List.append_assoc, ← b1]
        exact hs
      · split at h
        · rename_i w P1 hw
          cases h
          obtain ⟨k1, k2⟩ := sy_rf_ok hw
          refine ⟨⟨[], (List.append_nil _).symm⟩, k1, ?_⟩
          intro F X1 X2 r hs hp p l e s m args below meth c D h0 ex ka G0 Post C0 hP
          exact jm_ret_ok C0 hc (k2 F hp) rfl (Nat.le_refl 0) hP
        · split at h
          · cases h
          · rename_i d'
            split at h
            · rename_i M1 As rest hcf
              split at h
              · rename_i hA
                split at h
                · rename_i w G2 x1 hev
                  have hM1 : jm_ok YN M1 := by
                    unfold sy_cf at hcf
                    have gen : ∀ {k : Nat} {X : jm_M}, TB[k]? = some X → jm_ok YN X := fun h => hTB _ _ h
                    split at hcf
                    · split at hcf
                      · split at hcf
                        · rename_i hq
                          split at hcf
                          · cases hcf; exact gen hq
                          · cases hcf
                        · cases hcf
                      · cases hcf
                    · split at hcf
                      · split at hcf
                        · rename_i hq
                          split at hcf
                          · split at hcf
                            · split at hcf
                              · cases hcf; exact gen hq
                              · cases hcf
                            · cases hcf
                          · cases hcf
                        · cases hcf
                      · cases hcf
                    · cases hcf
                  obtain ⟨⟨r1, a1⟩, ⟨r2, a2⟩, a3⟩ := ih d' M1 0 _ [] G x w G2 x1 hM1.2.2.2.2.2.2.2.2.2 hev
                  obtain ⟨⟨r3, b1⟩, ⟨r4, b2⟩, b3⟩ := ih (d' + 1) M (pc + 3) L _ G2 x1 v G1 y htc h
                  refine ⟨⟨r1 ++ r3, by rw [b1, a1, List.append_assoc]⟩, ⟨r2 ++ r4, by rw [b2, a2, List.append_assoc]⟩, ?_⟩
                  intro F X1 X2 r hs hp p l e s m args below meth c D h0 ex ka G0 Post C0 hP
                  have hs1 : sy_sat F nv (x1.1 ++ (r3 ++ r)) := by
                    rw [← List.append_assoc, ← b1]
                    exact hs
                  have hp1 : ∀ z ∈ x1.2.1, sy_ps F z := fun z hz => hp z (by rw [b2]; exact List.mem_append_left _ hz)
                  have hT : jm_T Ls xs (d' + 1) M1 (As.map (sy_dv F)) (sy_dh F X1 X2 G) 0 0 (fun v G => v = w.map (sy_dv F) ∧ G = sy_dh F X1 X2 G2) := by
                    refine jm_T_intro hM1 (by rw [sy_e1_ok]; simpa [sy_dL] using hA) (fun p l e s m args below meth c D h0 ex ka C1 => ?_)
                    rw [sy_ent_ok]
                    exact a3 F X1 X2 _ hs1 hp1 C1 ⟨rfl, rfl⟩
                  refine jm_call_ok hTB hYN C0 hc (sy_cf_ok hcf F X1 X2) hT (show d' + 1 + 1 ≤ d' + 1 + 1 by omega) (show 64 * (d' + 1) + 64 ≤ 64 * (d' + 1 + 1) by omega) (Nat.le_refl 0) (Nat.le_refl 0) (fun v1 G3 hq hlen3 => ?_)
                  obtain ⟨rfl, rfl⟩ := hq
                  have hb := b3 F X1 X2 r hs hp (l := l) (e := e) (below := below) C0 hP
                  have he : sy_dS F (w.toList ++ rest) = (w.map (sy_dv F)).toList ++ rest.map (sy_dv F) := by cases w <;> simp [sy_dS]
                  rw [he] at hb
                  exact hb
                · cases h
              · cases h
            · cases h
end
section
/-! ===== runs with symbols to a place of the method, or to a call ===== -/
def sy_go (TB : List jm_M) (nv : Nat) (sp sm : List Nat) : Nat → Nat → jm_M → Bool → Nat → List (Option sy_v) → List sy_v → sy_h → sy_x → Option ((Nat × List (Option sy_v) × List sy_v × sy_h) × sy_x)
  | 0, _, _, _, _, _, _, _, _ => none
  | n + 1, d, M, f, pc, L, S, G, x => bif !f && sp.contains pc then some ((pc, L, S, G), x) else match jm_in M pc with
    | none => none
    | some e => match sy_step nv M e pc L S G (0, 0) x with
      | some ((pc', L', S', G', _), x') => sy_go TB nv sp sm n d M false pc' L' S' G' x'
      | none => match d with
          | 0 => none
          | d' + 1 => match sy_cf TB e G S with
            | some (M1, As, rest) => bif sm.contains e.2.2.1 then some ((pc, L, S, G), x) else if (sy_e1 As).length ≤ jm_mx M1 then (match sy_ev TB nv n d' M1 0 (sy_ent (jm_mx M1) As) [] G x with
              | some (v, G1, x1) => sy_go TB nv sp sm n d M false (pc + 3) L (v.toList ++ rest) G1 x1
              | none => none) else none
            | none => none
theorem sy_cf_tb {TB : List jm_M} {YN : List MethodName} (hTB : ∀ (k : Nat) (M' : jm_M), TB[k]? = some M' → jm_ok YN M') {e : jm_I} {G : sy_h} {S As rest : List sy_v} {M1 : jm_M} (hcf : sy_cf TB e G S = some (M1, As, rest)) : jm_ok YN M1 := by
  unfold sy_cf at hcf
  have gen : ∀ {k : Nat} {X : jm_M}, TB[k]? = some X → jm_ok YN X := fun h => hTB _ _ h
  split at hcf
  · split at hcf
    · split at hcf
      · rename_i hq
        split at hcf
        · cases hcf; exact gen hq
        · cases hcf
      · cases hcf
    · cases hcf
  · split at hcf
    · split at hcf
      · rename_i hq
        split at hcf
        · split at hcf
          · split at hcf
            · cases hcf; exact gen hq
            · cases hcf
          · cases hcf
        · cases hcf
      · cases hcf
    · cases hcf
  · cases hcf
set_option maxHeartbeats 4000000 in
theorem sy_go_ok {TB : List jm_M} {YN : List MethodName} {nv : Nat} {sp sm : List Nat} {Ls : Nat} {xs : Nat → Int32} (hTB : ∀ (k : Nat) (M' : jm_M), TB[k]? = some M' → jm_ok YN M') (hYN : YN = TB.map jm_y) :
    ∀ (n d : Nat) (M : jm_M) (f : Bool) (pc : Nat) (L : List (Option sy_v)) (S : List sy_v) (G : sy_h) (x : sy_x) (pc1 : Nat) (L1 : List (Option sy_v)) (S1 : List sy_v) (G1 : sy_h) (y : sy_x), jm_tck YN M 0 (jm_tb M) = true → sy_go TB nv sp sm n d M f pc L S G x = some ((pc1, L1, S1, G1), y) →
      (∃ r, y.1 = x.1 ++ r) ∧ (∃ r, y.2.1 = x.2.1 ++ r) ∧ ∀ (F : Nat → sy_d) (X1 X2 : List jm_c) (r : List sy_e), sy_sat F nv (y.1 ++ r) → (∀ p ∈ y.2.1, sy_ps F p) →
      ∀ {p : Program} {l : Launch} {e : Env} {R : Room} {s : State} {m : MethodId} {args : Array Value} {below : List Frame} {meth : Method} {c : Code} {D : va_G} {h0 : Nat} {ex : Nat → Nat} {ka : Nat → ClassId} {n0 : Nat} {Q : State → Prop}, jm_C p s m args meth c D h0 ex ka Ls xs M n0 → d + 1 ≤ R.frames → 64 * (d + 1) ≤ R.locals →
      jm_W p l e R s m args below meth c D h0 ex ka M n0 Q (pc1, sy_dL F L1, sy_dS F S1, sy_dh F X1 X2 G1, 0, 0) →
      jm_W p l e R s m args below meth c D h0 ex ka M n0 Q (pc, sy_dL F L, sy_dS F S, sy_dh F X1 X2 G, 0, 0) := by
  intro n
  induction n with
  | zero => intro d M f pc L S G x pc1 L1 S1 G1 y _ h; cases h
  | succ n ih =>
    intro d M f pc L S G x pc1 L1 S1 G1 y htc h
    rw [sy_go] at h
    cases hf : (!f && sp.contains pc) with
    | true =>
      rw [hf] at h
      cases h
      exact ⟨⟨[], (List.append_nil _).symm⟩, ⟨[], (List.append_nil _).symm⟩, fun F X1 X2 r hs hp p l e R s m args below meth c D h0 ex ka n0 Q C0 hfr hlo k => k⟩
    | false =>
      rw [hf] at h
      dsimp only [cond] at h
      split at h
      · cases h
      · rename_i i hi
        have hc := jm_in_ck htc hi
        split at h
        · rename_i pc' L' S' G' q' x' hst
          have hq : q' = (0, 0) := sy_q hst
          subst hq
          obtain ⟨⟨r1, a1⟩, ⟨r2, a2⟩, a3⟩ := sy_step_ok (M := M) (Ls := Ls) (xs := xs) (bc := 0) (bs := 0) hst
          obtain ⟨⟨r3, b1⟩, ⟨r4, b2⟩, b3⟩ := ih d M false pc' L' S' G' x' pc1 L1 S1 G1 y htc h
          refine ⟨⟨r1 ++ r3, by rw [b1, a1, List.append_assoc]⟩, ⟨r2 ++ r4, by rw [b2, a2, List.append_assoc]⟩, ?_⟩
          intro F X1 X2 r hs hp p l e R s m args below meth c D h0 ex ka n0 Q C0 hfr hlo k
          refine jm_step_ok C0 (Nat.zero_le _) (Nat.zero_le _) (by omega) (by omega) hc (a3 F X1 X2 (r3 ++ r) ?_ (fun z hz => hp z (by rw [b2]; exact List.mem_append_left _ hz))) (b3 F X1 X2 r hs hp C0 hfr hlo k)
          rw [← List.append_assoc, ← b1]
          exact hs
        · split at h
          · cases h
          · rename_i d'
            split at h
            · rename_i M1 As rest hcf
              cases hsm : sm.contains i.2.2.1 with
              | true =>
                rw [hsm] at h
                cases h
                exact ⟨⟨[], (List.append_nil _).symm⟩, ⟨[], (List.append_nil _).symm⟩, fun F X1 X2 r hs hp p l e R s m args below meth c D h0 ex ka n0 Q C0 hfr hlo k => k⟩
              | false =>
                rw [hsm] at h
                dsimp only [cond] at h
                split at h
                · rename_i hA
                  split at h
                  · rename_i w G2 x1 hev
                    have hM1 : jm_ok YN M1 := sy_cf_tb hTB hcf
                    obtain ⟨⟨r1, a1⟩, ⟨r2, a2⟩, a3⟩ := sy_ev_ok (Ls := Ls) (xs := xs) hTB hYN n d' M1 0 _ [] G x w G2 x1 hM1.2.2.2.2.2.2.2.2.2 hev
                    obtain ⟨⟨r3, b1⟩, ⟨r4, b2⟩, b3⟩ := ih (d' + 1) M false (pc + 3) L _ G2 x1 pc1 L1 S1 G1 y htc h
                    refine ⟨⟨r1 ++ r3, by rw [b1, a1, List.append_assoc]⟩, ⟨r2 ++ r4, by rw [b2, a2, List.append_assoc]⟩, ?_⟩
                    intro F X1 X2 r hs hp p l e R s m args below meth c D h0 ex ka n0 Q C0 hfr hlo k
                    have hs1 : sy_sat F nv (x1.1 ++ (r3 ++ r)) := by
                      rw [← List.append_assoc, ← b1]
                      exact hs
                    have hp1 : ∀ z ∈ x1.2.1, sy_ps F z := fun z hz => hp z (by rw [b2]; exact List.mem_append_left _ hz)
                    have hT : jm_T Ls xs (d' + 1) M1 (As.map (sy_dv F)) (sy_dh F X1 X2 G) 0 0 (fun v G => v = w.map (sy_dv F) ∧ G = sy_dh F X1 X2 G2) := by
                      refine jm_T_intro hM1 (by rw [sy_e1_ok]; simpa [sy_dL] using hA) (fun p l e s m args below meth c D h0 ex ka C1 => ?_)
                      rw [sy_ent_ok]
                      exact a3 F X1 X2 _ hs1 hp1 C1 ⟨rfl, rfl⟩
                    refine jm_call_ok hTB hYN C0 hc (sy_cf_ok hcf F X1 X2) hT (by omega) (by omega) (Nat.zero_le _) (Nat.zero_le _) (fun v1 G3 hq hlen3 => ?_)
                    obtain ⟨rfl, rfl⟩ := hq
                    have hb := b3 F X1 X2 r hs hp (l := l) (e := e) (below := below) C0 hfr hlo k
                    have he : sy_dS F (w.toList ++ rest) = (w.map (sy_dv F)).toList ++ rest.map (sy_dv F) := by cases w <;> simp [sy_dS]
                    rw [he] at hb
                    exact hb
                  · cases h
                · cases h
            · cases h
/-- a contract out of a run -/
theorem sy_T {TB : List jm_M} {YN : List MethodName} {nv n d : Nat} {M : jm_M} {As : List sy_v} {G G1 : sy_h} {O O1 : List Bool} {T : List sy_e} {P : List sy_p} {v : Option sy_v} {Ls : Nat} {xs : Nat → Int32} (hTB : ∀ (k : Nat) (M' : jm_M), TB[k]? = some M' → jm_ok YN M') (hYN : YN = TB.map jm_y) (hM : jm_ok YN M) (hA : (sy_e1 As).length ≤ jm_mx M)
    (h : sy_ev TB nv n d M 0 (sy_ent (jm_mx M) As) [] G ([], [], O) = some (v, G1, T, P, O1)) (F : Nat → sy_d) (X1 X2 : List jm_c) (hs : sy_sat F nv T) (hp : ∀ p ∈ P, sy_ps F p) :
    jm_T Ls xs (d + 1) M (As.map (sy_dv F)) (sy_dh F X1 X2 G) 0 0 (fun w G' => w = v.map (sy_dv F) ∧ G' = sy_dh F X1 X2 G1) := by
  obtain ⟨-, -, a3⟩ := sy_ev_ok (Ls := Ls) (xs := xs) hTB hYN n d M 0 _ [] G _ v G1 _ hM.2.2.2.2.2.2.2.2.2 h
  refine jm_T_intro hM (by rw [sy_e1_ok]; simpa [sy_dL] using hA) (fun p l e s m args below meth c D h0 ex ka C1 => ?_)
  rw [sy_ent_ok]
  exact a3 F X1 X2 [] (by rw [List.append_nil]; exact hs) hp C1 ⟨rfl, rfl⟩
end
section
/-! ===== the methods, a row each ===== -/
def jm_YN : List MethodName := [⟨"FallMarket$Clock", "<init>", "(LFallMarket$Laws;)V"⟩, ⟨"FallMarket$Clock", "lot", "(II)I"⟩, ⟨"FallMarket$Clock", "mixed", "(II)I"⟩, ⟨"FallMarket$Clock", "passHour", "(LFallMarket$Text;LFallMarket$Ground;I)V"⟩, ⟨"FallMarket$Clock", "sellOrKeep", "(LFallMarket$Text;LFallMarket$Ground;I)V"⟩, ⟨"FallMarket$Clock", "letFall", "(LFallMarket$Text;LFallMarket$Ground;I)V"⟩, ⟨"FallMarket$Ground", "<init>", "()V"⟩, ⟨"FallMarket$Ground", "begin", "(LFallMarket$Text;)V"⟩, ⟨"FallMarket$Ground", "become", "(LFallMarket$Ground;)V"⟩, ⟨"FallMarket$Ground", "save", "([II)V"⟩, ⟨"FallMarket$Ground", "load", "([II)V"⟩, ⟨"FallMarket$Ground", "bits", "(II)I"⟩, ⟨"FallMarket$Ground", "howMany", "(II)I"⟩, ⟨"FallMarket$Ground", "nearest", "(LFallMarket$Text;II)I"⟩, ⟨"FallMarket$Ground", "firstAt", "(LFallMarket$Text;II)I"⟩, ⟨"FallMarket$Ground", "sell", "(III)V"⟩, ⟨"FallMarket$Laws", "<init>", "()V"⟩, ⟨"FallMarket$Laws", "setHour", "(LFallMarket$Text;II)V"⟩, ⟨"FallMarket$Laws", "setFruit", "(LFallMarket$Text;LFallMarket$Ground;I)V"⟩, ⟨"FallMarket$Laws", "settleRests", "(LFallMarket$Text;)V"⟩, ⟨"FallMarket$Laws", "bounced", "(LFallMarket$Text;I)I"⟩, ⟨"FallMarket$Laws", "told", "(LFallMarket$Text;I)I"⟩, ⟨"FallMarket$Laws", "worked", "(LFallMarket$Text;I)I"⟩, ⟨"FallMarket$Laws", "joined", "(III)I"⟩, ⟨"FallMarket$Outlook", "<init>", "(LFallMarket$Laws;)V"⟩, ⟨"FallMarket$Outlook", "lookAhead", "(LFallMarket$Text;LFallMarket$Ground;III)V"⟩, ⟨"FallMarket$Outlook", "weighCatches", "(LFallMarket$Text;LFallMarket$Ground;I)V"⟩, ⟨"FallMarket$Outlook", "meanWorth", "(I)J"⟩, ⟨"FallMarket$Outlook", "fallsInHour", "(LFallMarket$Text;LFallMarket$Ground;III)J"⟩, ⟨"FallMarket$Outlook", "inHundredths", "(JI)I"⟩, ⟨"FallMarket$Parser", "<init>", "(LFallMarket$Text;)V"⟩, ⟨"FallMarket$Parser", "parse", "([BILFallMarket$Text;)I"⟩, ⟨"FallMarket$Parser", "faultPlace", "()I"⟩, ⟨"FallMarket$Parser", "parseFruit", "()Z"⟩, ⟨"FallMarket$Parser", "parseBuyer", "()Z"⟩, ⟨"FallMarket$Parser", "parseSetting", "(I)Z"⟩, ⟨"FallMarket$Parser", "parseLaw", "(II)Z"⟩, ⟨"FallMarket$Parser", "parseIf", "(I)Z"⟩, ⟨"FallMarket$Parser", "parseSum", "(II)Z"⟩, ⟨"FallMarket$Parser", "parseProduct", "(II)Z"⟩, ⟨"FallMarket$Parser", "parseUnit", "(II)Z"⟩, ⟨"FallMarket$Parser", "takeName", "()Z"⟩, ⟨"FallMarket$Parser", "takeNumber", "(III)Z"⟩, ⟨"FallMarket$Parser", "take", "(I)Z"⟩, ⟨"FallMarket$Parser", "refuse", "(I)Z"⟩, ⟨"FallMarket$Parser", "markLater", "(I)V"⟩, ⟨"FallMarket$Text", "<init>", "()V"⟩, ⟨"FallMarket$Text", "clear", "()V"⟩, ⟨"FallMarket$Text", "addPlainLaw", "(II)V"⟩, ⟨"FallMarket$Text", "varCell", "(I)I"⟩, ⟨"FallMarket$Text", "emit", "(I)V"⟩, ⟨"FallMarket$Text", "patch", "(II)V"⟩, ⟨"FallMarket$Text", "addFruit", "([I)V"⟩, ⟨"FallMarket$Text", "addBuyer", "([I)V"⟩, ⟨"FallMarket$Tokens", "<init>", "()V"⟩, ⟨"FallMarket$Tokens", "kindAt", "(I)I"⟩, ⟨"FallMarket$Tokens", "startAt", "(I)I"⟩, ⟨"FallMarket$Tokens", "valueAt", "(I)J"⟩, ⟨"FallMarket$Tokens", "cut", "([BI)V"⟩, ⟨"FallMarket$Tokens", "cutOne", "(I[BII)I"⟩, ⟨"FallMarket$Tokens", "cutWord", "(I[BII)I"⟩, ⟨"FallMarket$Tokens", "cutNumber", "(I[BII)I"⟩, ⟨"FallMarket$Tokens", "wordKind", "(J)I"⟩, ⟨"FallMarket$Tokens", "withLetter", "(JI)J"⟩, ⟨"FallMarket$Tokens", "isBlank", "(I)Z"⟩, ⟨"FallMarket$Tokens", "isLetter", "(I)Z"⟩, ⟨"FallMarket$Tokens", "isDigit", "(I)Z"⟩, ⟨"FallMarket$Tokens", "isSign", "(I)Z"⟩, ⟨"FallMarket$Told", "<init>", "()V"⟩, ⟨"FallMarket$Told", "add", "(II)I"⟩, ⟨"FallMarket$Told", "rowCount", "(LFallMarket$Text;I)I"⟩, ⟨"FallMarket$Told", "fitting", "(LFallMarket$Text;I)I"⟩, ⟨"FallMarket$Told", "firstFitting", "(LFallMarket$Text;I)I"⟩, ⟨"FallMarket$Told", "widest", "(LFallMarket$Text;I)I"⟩, ⟨"FallMarket$Told", "isFit", "(LFallMarket$Text;II)Z"⟩, ⟨"FallMarket$Told", "alikeAhead", "(I)I"⟩, ⟨"FallMarket$Trail", "<init>", "()V"⟩, ⟨"FallMarket$Trail", "clear", "()V"⟩, ⟨"FallMarket$Trail", "remember", "(LFallMarket$Ground;)V"⟩, ⟨"FallMarket$Trail", "stepBack", "(LFallMarket$Ground;)Z"⟩, ⟨"FallMarket", "<init>", "()V"⟩, ⟨"FallMarket", "feed", "(IIIII)I"⟩, ⟨"FallMarket", "back", "(I)I"⟩, ⟨"FallMarket", "read", "()I"⟩, ⟨"FallMarket", "place", "()I"⟩, ⟨"FallMarket", "fruit", "(II)I"⟩, ⟨"FallMarket", "buyer", "(II)I"⟩, ⟨"FallMarket", "tells", "(II)I"⟩, ⟨"FallMarket", "go", "(II)Z"⟩, ⟨"FallMarket", "prop", "(IZ)Z"⟩, ⟨"FallMarket", "shake", "(I)I"⟩, ⟨"FallMarket", "hours", "(I)I"⟩, ⟨"FallMarket", "undo", "()Z"⟩, ⟨"FallMarket", "hangsOn", "(IIZ)I"⟩, ⟨"FallMarket", "mean", "(III)I"⟩, ⟨"FallMarket", "stand", "(III)I"⟩, ⟨"FallMarket", "props", "(II)I"⟩, ⟨"FallMarket", "shakes", "(II)I"⟩, ⟨"FallMarket", "passes", "(II)I"⟩, ⟨"FallMarket", "windIn", "(I)I"⟩, ⟨"FallMarket", "next", "(Z)I"⟩, ⟨"FallMarket", "catcher", "(I)I"⟩, ⟨"FallMarket", "then", "(III)I"⟩, ⟨"FallMarket", "paid", "(II)I"⟩, ⟨"FallMarket", "much", "(II)I"⟩, ⟨"FallMarket", "last", "(I)I"⟩, ⟨"FallMarket", "asleep", "()I"⟩, ⟨"FallMarket", "year", "(IIII)I"⟩, ⟨"FallMarket", "tell", "(II)I"⟩, ⟨"FallMarket", "forget", "()I"⟩, ⟨"FallMarket", "rows", "(I)I"⟩, ⟨"FallMarket", "sure", "(II)I"⟩, ⟨"FallMarket", "ask", "(I)I"⟩, ⟨"FallMarket", "hold", "(I)Z"⟩, ⟨"FallMarket", "restore", "(I)Z"⟩, ⟨"FallMarket", "count", "(I)I"⟩, ⟨"FallMarket", "append", "(I)V"⟩, ⟨"FallMarket", "begin", "()V"⟩, ⟨"FallMarket", "isFruit", "(I)Z"⟩, ⟨"FallMarket", "isBuyer", "(I)Z"⟩, ⟨"FallMarket", "lookAtNow", "(I)V"⟩, ⟨"FallMarket", "goAhead", "(I)V"⟩, ⟨"FallMarket", "catchesAt", "(II)J"⟩, ⟨"FallMarket", "boughtBits", "(I)I"⟩, ⟨"FallMarket", "heldSlots", "()I"⟩, ⟨"FallMarket", "allCoins", "()I"⟩, ⟨"FallMarket", "proppedBits", "()I"⟩, ⟨"FallMarket", "hangingRipeness", "()I"⟩, ⟨"FallMarket", "isWithin", "(III)Z"⟩, ⟨"FallMarket", "heldTo", "(III)I"⟩, ⟨"FallMarket", "highestFruit", "(I)I"⟩, ⟨"FallMarket", "commonDivisor", "(II)I"⟩, ⟨"FallMarketModel", "<init>", "()V"⟩, ⟨"FallMarketModel", "feed", "(IIIII)I"⟩, ⟨"FallMarketModel", "put", "(I)V"⟩, ⟨"FallMarketModel", "back", "(I)I"⟩, ⟨"FallMarketModel", "byteAt", "(I)I"⟩, ⟨"FallMarketModel", "isDigit", "(I)Z"⟩, ⟨"FallMarketModel", "isLetter", "(I)Z"⟩, ⟨"FallMarketModel", "appends", "(JI)J"⟩, ⟨"FallMarketModel", "word", "(IIIIIII)J"⟩, ⟨"FallMarketModel", "token", "(IIIJ)V"⟩, ⟨"FallMarketModel", "cut", "()V"⟩, ⟨"FallMarketModel", "sign", "(III)I"⟩, ⟨"FallMarketModel", "is", "(I)Z"⟩, ⟨"FallMarketModel", "fail", "(I)V"⟩, ⟨"FallMarketModel", "wrong", "(II)V"⟩, ⟨"FallMarketModel", "goesOn", "()V"⟩, ⟨"FallMarketModel", "must", "(I)V"⟩, ⟨"FallMarketModel", "plain", "(I)V"⟩, ⟨"FallMarketModel", "read", "()I"⟩, ⟨"FallMarketModel", "place", "()I"⟩, ⟨"FallMarketModel", "roomFor", "(II)V"⟩, ⟨"FallMarketModel", "toldInt", "(II)I"⟩, ⟨"FallMarketModel", "tellOne", "()V"⟩, ⟨"FallMarketModel", "named", "()I"⟩, ⟨"FallMarketModel", "ends", "(I)V"⟩, ⟨"FallMarketModel", "bounded", "(II)I"⟩, ⟨"FallMarketModel", "tellFruit", "()V"⟩, ⟨"FallMarketModel", "tellBuyer", "()V"⟩, ⟨"FallMarketModel", "tellLaw", "(I)V"⟩, ⟨"FallMarketModel", "term", "()V"⟩, ⟨"FallMarketModel", "emit", "(II)V"⟩, ⟨"FallMarketModel", "comesOut", "(Z)V"⟩, ⟨"FallMarketModel", "expression", "()V"⟩, ⟨"FallMarketModel", "unit", "()V"⟩, ⟨"FallMarketModel", "termOf", "(II)I"⟩, ⟨"FallMarketModel", "in", "(III)Z"⟩, ⟨"FallMarketModel", "held", "(III)I"⟩, ⟨"FallMarketModel", "isFruit", "(I)Z"⟩, ⟨"FallMarketModel", "isBuyer", "(I)Z"⟩, ⟨"FallMarketModel", "begins", "()V"⟩, ⟨"FallMarketModel", "keepsRow", "()V"⟩, ⟨"FallMarketModel", "copies", "()V"⟩, ⟨"FallMarketModel", "mixed", "(II)I"⟩, ⟨"FallMarketModel", "lotOf", "(I)I"⟩, ⟨"FallMarketModel", "bitsOf", "(I)I"⟩, ⟨"FallMarketModel", "bits", "(I)I"⟩, ⟨"FallMarketModel", "looks", "(II)V"⟩, ⟨"FallMarketModel", "asks", "(IIII)I"⟩, ⟨"FallMarketModel", "lawTells", "(I)I"⟩, ⟨"FallMarketModel", "windBy", "(II)I"⟩, ⟨"FallMarketModel", "looksAt", "(IIII)V"⟩, ⟨"FallMarketModel", "worthBy", "(IIIII)I"⟩, ⟨"FallMarketModel", "bouncesBy", "(IIII)I"⟩, ⟨"FallMarketModel", "hangsBy", "(IIIIIIII)I"⟩, ⟨"FallMarketModel", "off", "(II)I"⟩, ⟨"FallMarketModel", "catcherOf", "(II)I"⟩, ⟨"FallMarketModel", "sells", "(III)V"⟩, ⟨"FallMarketModel", "looksOn", "()V"⟩, ⟨"FallMarketModel", "lies", "(I)V"⟩, ⟨"FallMarketModel", "falls", "(I)V"⟩, ⟨"FallMarketModel", "hourGoes", "()V"⟩, ⟨"FallMarketModel", "goes", "(I)V"⟩, ⟨"FallMarketModel", "fruit", "(II)I"⟩, ⟨"FallMarketModel", "buyer", "(II)I"⟩, ⟨"FallMarketModel", "leftNow", "()I"⟩, ⟨"FallMarketModel", "tellsOf", "(IIII)I"⟩, ⟨"FallMarketModel", "blowsNow", "()I"⟩, ⟨"FallMarketModel", "tells", "(II)I"⟩, ⟨"FallMarketModel", "records", "()V"⟩, ⟨"FallMarketModel", "go", "(II)Z"⟩, ⟨"FallMarketModel", "prop", "(IZ)Z"⟩, ⟨"FallMarketModel", "shake", "(I)I"⟩, ⟨"FallMarketModel", "hours", "(I)I"⟩, ⟨"FallMarketModel", "undo", "()Z"⟩, ⟨"FallMarketModel", "fillsOdds", "(III)V"⟩, ⟨"FallMarketModel", "hundreds", "(I)J"⟩, ⟨"FallMarketModel", "fallsIn", "(I)J"⟩, ⟨"FallMarketModel", "isFew", "(II)Z"⟩, ⟨"FallMarketModel", "common", "(JJ)J"⟩, ⟨"FallMarketModel", "hangsOn", "(IIZ)I"⟩, ⟨"FallMarketModel", "meanAt", "(III)J"⟩, ⟨"FallMarketModel", "mean", "(III)I"⟩, ⟨"FallMarketModel", "stand", "(III)I"⟩, ⟨"FallMarketModel", "props", "(II)I"⟩, ⟨"FallMarketModel", "shakes", "(II)I"⟩, ⟨"FallMarketModel", "passes", "(II)I"⟩, ⟨"FallMarketModel", "isLong", "(I)Z"⟩, ⟨"FallMarketModel", "windIn", "(I)I"⟩, ⟨"FallMarketModel", "next", "(Z)I"⟩, ⟨"FallMarketModel", "catcher", "(I)I"⟩, ⟨"FallMarketModel", "then", "(III)I"⟩, ⟨"FallMarketModel", "paid", "(II)I"⟩, ⟨"FallMarketModel", "much", "(II)I"⟩, ⟨"FallMarketModel", "last", "(I)I"⟩, ⟨"FallMarketModel", "asleep", "()I"⟩, ⟨"FallMarketModel", "year", "(IIII)I"⟩, ⟨"FallMarketModel", "tell", "(II)I"⟩, ⟨"FallMarketModel", "forget", "()I"⟩, ⟨"FallMarketModel", "sevens", "(I)I"⟩, ⟨"FallMarketModel", "isRow", "(II)Z"⟩, ⟨"FallMarketModel", "fillsRows", "(I)V"⟩, ⟨"FallMarketModel", "rows", "(I)I"⟩, ⟨"FallMarketModel", "sure", "(II)I"⟩, ⟨"FallMarketModel", "ask", "(I)I"⟩, ⟨"FallMarketModel", "hold", "(I)Z"⟩, ⟨"FallMarketModel", "restore", "(I)Z"⟩, ⟨"FallMarketModel", "count", "(I)I"⟩, ⟨"java/lang/Integer", "bitCount", "(I)I"⟩, ⟨"java/lang/Math", "abs", "(I)I"⟩, ⟨"java/lang/Math", "max", "(II)I"⟩, ⟨"java/lang/Math", "max", "(JJ)J"⟩, ⟨"java/lang/Math", "min", "(II)I"⟩, ⟨"java/lang/String", "length", "()I"⟩, ⟨"java/lang/String", "charAt", "(I)C"⟩, ⟨"java/lang/String", "coder", "()B"⟩, ⟨"java/lang/String", "isLatin1", "()Z"⟩, ⟨"java/lang/String", "checkIndex", "(II)V"⟩, ⟨"java/lang/StringLatin1", "charAt", "([BI)C"⟩, ⟨"java/lang/StringUTF16", "getChar", "([BI)C"⟩, ⟨"java/lang/StringUTF16", "length", "([B)I"⟩, ⟨"java/lang/StringUTF16", "charAt", "([BI)C"⟩, ⟨"java/lang/StringUTF16", "checkIndex", "(I[B)V"⟩, ⟨"java/util/Arrays", "fill", "([II)V"⟩, ⟨"jdk/internal/util/Preconditions", "checkIndex", "(IILjava/util/function/BiFunction;)I"⟩]
/-- FallMarket$Clock.<init>(LFallMarket$Laws;)V -/
def jm_M0 : jm_M := (⟨"FallMarket$Clock", "<init>", "(LFallMarket$Laws;)V"⟩, prog_2_method_1_code, 2, none, [[some (.aload_n 0, 1, 0, 0, 0), some (.invokespecial 3, 3, 0, 2, 354), none, none, some (.aload_n 0, 1, 0, 0, 0), some (.aload_n 1, 1, 0, 0, 0), some (.putfield 9, 3, 0, 13000, 355), none, none, some (.return_, 1, 0, 0, 0)]], 1, 1, 2, 0)
/-- FallMarket$Clock.lot(II)I -/
def jm_M1 : jm_M := (⟨"FallMarket$Clock", "lot", "(II)I"⟩, prog_2_method_2_code, 2, some .int, [[some (.iload_n 0, 1, 0, 0, 0), some (.bipush 101, 2, 0, 0, 0), none, some (.invokestatic 15, 3, 2, 0, 805), none, none, some (.iload_n 1, 1, 0, 0, 0), some (.invokestatic 15, 3, 2, 0, 805), none, none, some (.iconst 1, 1, 0, 0, 0), some (.iushr, 1, 0, 0, 0), some (.bipush 100, 2, 0, 0, 0), none, some (.irem, 1, 0, 0, 0), some (.ireturn, 1, 0, 0, 0)]], 1, 2, 0, 0)
/-- FallMarket$Clock.mixed(II)I -/
def jm_M2 : jm_M := (⟨"FallMarket$Clock", "mixed", "(II)I"⟩, prog_2_method_3_code, 3, some .int, [[some (.iload_n 0, 1, 0, 0, 0), some (.iload_n 1, 1, 0, 0, 0), some (.ixor, 1, 0, 0, 0), some (.ldc 19, 2, 1103515245, 0, 808), none, some (.imul, 1, 0, 0, 0), some (.sipush 12345, 3, 0, 0, 0), none, none, some (.iadd, 1, 0, 0, 0), some (.istore_n 2, 1, 0, 0, 0), some (.iload_n 2, 1, 0, 0, 0), some (.iload_n 2, 1, 0, 0, 0), some (.bipush 15, 2, 0, 0, 0), none, some (.iushr, 1, 0, 0, 0)],
  [some (.ixor, 1, 0, 0, 0), some (.ireturn, 1, 0, 0, 0)]], 1, 2, 0, 0)
def jm_M3_r0 : List (Option jm_I) := [some (.aload_n 0, 1, 0, 0, 0), some (.getfield 9, 3, 0, 0, 355), none, none, some (.aload_n 1, 1, 0, 0, 0), some (.aload_n 2, 1, 0, 0, 0), some (.getfield 20, 3, 1, 0, 388), none, none, some (.aload_n 2, 1, 0, 0, 0), some (.iconst 0, 1, 0, 0, 0), some (.aload_n 1, 1, 0, 0, 0), some (.getfield 26, 3, 5, 0, 147), none, none, some (.invokevirtual 31, 3, 12, 0, 817)]
def jm_M3_r1 : List (Option jm_I) := [none, none, some (.invokevirtual 34, 3, 17, 0, 818), none, none, some (.iconst 0, 1, 0, 0, 0), some (.istore 4, 2, 0, 0, 0), none, some (.iload 4, 2, 0, 0, 0), none, some (.aload_n 1, 1, 0, 0, 0), some (.getfield 26, 3, 5, 0, 147), none, none, some (.if_icmp .ge 28, 3, 0, 0, 0)]
def jm_M3_r2 : List (Option jm_I) := [none, some (.aload_n 2, 1, 0, 0, 0), some (.getfield 40, 3, 1, 4, 401), none, none, some (.iload 4, 2, 0, 0, 0), none, some (.iaload, 1, 0, 0, 0), some (.iconst 1, 1, 0, 0, 0), some (.if_icmp .ne 11, 3, 0, 0, 0), none, none, some (.aload_n 0, 1, 0, 0, 0), some (.aload_n 1, 1, 0, 0, 0), some (.aload_n 2, 1, 0, 0, 0), some (.iload 4, 2, 0, 0, 0)]
def jm_M3_r3 : List (Option jm_I) := [none, some (.invokevirtual 44, 3, 4, 0, 819), none, none, some (.iinc 4 1, 3, 0, 0, 0), none, none, some (.goto (-31), 3, 0, 0, 0), none, none, some (.iconst 0, 1, 0, 0, 0), some (.istore 4, 2, 0, 0, 0), none, some (.iload 4, 2, 0, 0, 0), none, some (.aload_n 1, 1, 0, 0, 0)]
def jm_M3_r4 : List (Option jm_I) := [some (.getfield 26, 3, 5, 0, 147), none, none, some (.if_icmp .ge 97, 3, 0, 0, 0), none, none, some (.aload_n 2, 1, 0, 0, 0), some (.getfield 40, 3, 1, 4, 401), none, none, some (.iload 4, 2, 0, 0, 0), none, some (.iaload, 1, 0, 0, 0), some (.ifCond .ne 81, 3, 0, 0, 0)]
def jm_M3_r5 : List (Option jm_I) := [some (.aload_n 0, 1, 0, 0, 0), some (.getfield 9, 3, 0, 0, 355), none, none, some (.aload_n 1, 1, 0, 0, 0), some (.aload_n 2, 1, 0, 0, 0), some (.iload 4, 2, 0, 0, 0), none, some (.invokevirtual 48, 3, 18, 0, 823), none, none, some (.iload_n 3, 1, 0, 0, 0), some (.bipush 16, 2, 0, 0, 0), none, some (.aload_n 2, 1, 0, 0, 0), some (.getfield 20, 3, 1, 0, 388)]
def jm_M3_r6 : List (Option jm_I) := [none, none, some (.imul, 1, 0, 0, 0), some (.iload 4, 2, 0, 0, 0), none, some (.iadd, 1, 0, 0, 0), some (.invokestatic 51, 3, 1, 0, 833), none, none, some (.aload_n 0, 1, 0, 0, 0), some (.getfield 9, 3, 0, 0, 355), none, none, some (.aload_n 1, 1, 0, 0, 0), some (.iconst 2, 1, 0, 0, 0), some (.invokevirtual 54, 3, 21, 0, 824)]
def jm_M3_r7 : List (Option jm_I) := [none, none, some (.if_icmp .ge 14, 3, 0, 0, 0), none, none, some (.aload_n 0, 1, 0, 0, 0), some (.aload_n 1, 1, 0, 0, 0), some (.aload_n 2, 1, 0, 0, 0), some (.iload 4, 2, 0, 0, 0), none, some (.invokevirtual 58, 3, 5, 0, 834), none, none, some (.goto 33, 3, 0, 0, 0)]
def jm_M3_r8 : List (Option jm_I) := [some (.aload_n 2, 1, 0, 0, 0), some (.getfield 61, 3, 1, 3, 397), none, none, some (.iload 4, 2, 0, 0, 0), none, some (.aload_n 2, 1, 0, 0, 0), some (.getfield 61, 3, 1, 3, 397), none, none, some (.iload 4, 2, 0, 0, 0), none, some (.iaload, 1, 0, 0, 0), some (.aload_n 0, 1, 0, 0, 0), some (.getfield 9, 3, 0, 0, 355)]
def jm_M3_r9 : List (Option jm_I) := [none, some (.aload_n 1, 1, 0, 0, 0), some (.iconst 1, 1, 0, 0, 0), some (.invokevirtual 54, 3, 21, 0, 824), none, none, some (.iadd, 1, 0, 0, 0), some (.iconst 0, 1, 0, 0, 0), some (.bipush 99, 2, 0, 0, 0), none, some (.invokestatic 64, 3, 129, 1, 846), none, none, some (.iastore, 1, 0, 0, 0), some (.iinc 4 1, 3, 0, 0, 0)]
def jm_M3_r10 : List (Option jm_I) := [none, some (.goto (-100), 3, 0, 0, 0), none, none, some (.aload_n 2, 1, 0, 0, 0), some (.dup, 1, 0, 0, 0), some (.getfield 20, 3, 1, 0, 388), none, none, some (.iconst 1, 1, 0, 0, 0), some (.iadd, 1, 0, 0, 0), some (.putfield 20, 3, 1, 0, 388), none, none, some (.aload_n 2, 1, 0, 0, 0), some (.getfield 68, 3, 1, 8, 416)]
def jm_M3_r11 : List (Option jm_I) := [none, none, some (.iconst 0, 1, 0, 0, 0), some (.invokestatic 71, 3, 254, 0, 847), none, none, some (.return_, 1, 0, 0, 0)]
/-- FallMarket$Clock.passHour(LFallMarket$Text;LFallMarket$Ground;I)V -/
def jm_M3 : jm_M := (⟨"FallMarket$Clock", "passHour", "(LFallMarket$Text;LFallMarket$Ground;I)V"⟩, prog_2_method_4_code, 5, none, [jm_M3_r0, jm_M3_r1, jm_M3_r2, jm_M3_r3, jm_M3_r4, jm_M3_r5, jm_M3_r6, jm_M3_r7, jm_M3_r8, jm_M3_r9, jm_M3_r10, jm_M3_r11], 1, 3, 1, 0)
/-- FallMarket$Clock.sellOrKeep(LFallMarket$Text;LFallMarket$Ground;I)V -/
def jm_M4 : jm_M := (⟨"FallMarket$Clock", "sellOrKeep", "(LFallMarket$Text;LFallMarket$Ground;I)V"⟩, prog_2_method_5_code, 6, none, [[some (.aload_n 0, 1, 0, 0, 0), some (.getfield 9, 3, 0, 0, 355), none, none, some (.aload_n 1, 1, 0, 0, 0), some (.aload_n 2, 1, 0, 0, 0), some (.iload_n 3, 1, 0, 0, 0), some (.invokevirtual 48, 3, 18, 0, 823), none, none, some (.aload_n 0, 1, 0, 0, 0), some (.getfield 9, 3, 0, 0, 355), none, none, some (.aload_n 1, 1, 0, 0, 0), some (.iconst 3, 1, 0, 0, 0)],
  [some (.invokevirtual 54, 3, 21, 0, 824), none, none, some (.istore 4, 2, 0, 0, 0), none, some (.aload_n 2, 1, 0, 0, 0), some (.aload_n 1, 1, 0, 0, 0), some (.aload_n 2, 1, 0, 0, 0), some (.getfield 77, 3, 1, 9, 419), none, none, some (.iload_n 3, 1, 0, 0, 0), some (.iaload, 1, 0, 0, 0), some (.iload 4, 2, 0, 0, 0), none, some (.invokevirtual 80, 3, 14, 0, 825)],
  [none, none, some (.istore 5, 2, 0, 0, 0), none, some (.iload 5, 2, 0, 0, 0), none, some (.ifCond .lt 13, 3, 0, 0, 0), none, none, some (.aload_n 2, 1, 0, 0, 0), some (.iload_n 3, 1, 0, 0, 0), some (.iload 5, 2, 0, 0, 0), none, some (.iload 4, 2, 0, 0, 0), none, some (.invokevirtual 84, 3, 15, 0, 829)],
  [none, none, some (.return_, 1, 0, 0, 0), some (.aload_n 2, 1, 0, 0, 0), some (.getfield 88, 3, 1, 6, 407), none, none, some (.iload_n 3, 1, 0, 0, 0), some (.dup2, 1, 0, 0, 0), some (.iaload, 1, 0, 0, 0), some (.iconst 1, 1, 0, 0, 0), some (.iadd, 1, 0, 0, 0), some (.iastore, 1, 0, 0, 0), some (.aload_n 2, 1, 0, 0, 0), some (.getfield 88, 3, 1, 6, 407)],
  [none, some (.iload_n 3, 1, 0, 0, 0), some (.iaload, 1, 0, 0, 0), some (.aload_n 1, 1, 0, 0, 0), some (.getfield 91, 3, 5, 10, 179), none, none, some (.if_icmp .le 10, 3, 0, 0, 0), none, none, some (.aload_n 2, 1, 0, 0, 0), some (.getfield 40, 3, 1, 4, 401), none, none, some (.iload_n 3, 1, 0, 0, 0), some (.iconst 3, 1, 0, 0, 0)],
  [some (.iastore, 1, 0, 0, 0), some (.return_, 1, 0, 0, 0)]], 1, 3, 1, 0)
/-- FallMarket$Clock.letFall(LFallMarket$Text;LFallMarket$Ground;I)V -/
def jm_M5 : jm_M := (⟨"FallMarket$Clock", "letFall", "(LFallMarket$Text;LFallMarket$Ground;I)V"⟩, prog_2_method_6_code, 6, none, [[some (.aload_n 0, 1, 0, 0, 0), some (.getfield 9, 3, 0, 0, 355), none, none, some (.aload_n 1, 1, 0, 0, 0), some (.iconst 3, 1, 0, 0, 0), some (.invokevirtual 54, 3, 21, 0, 824), none, none, some (.istore 4, 2, 0, 0, 0), none, some (.aload_n 2, 1, 0, 0, 0), some (.aload_n 1, 1, 0, 0, 0), some (.aload_n 1, 1, 0, 0, 0), some (.getfield 94, 3, 5, 1, 152)],
  [none, some (.iload_n 3, 1, 0, 0, 0), some (.iaload, 1, 0, 0, 0), some (.iload 4, 2, 0, 0, 0), none, some (.invokevirtual 97, 3, 13, 0, 838), none, none, some (.istore 5, 2, 0, 0, 0), none, some (.iload 5, 2, 0, 0, 0), none, some (.ifCond .lt 15, 3, 0, 0, 0), none, none, some (.aload_n 2, 1, 0, 0, 0)],
  [some (.iload_n 3, 1, 0, 0, 0), some (.iload 5, 2, 0, 0, 0), none, some (.iload 4, 2, 0, 0, 0), none, some (.invokevirtual 84, 3, 15, 0, 829), none, none, some (.goto 25, 3, 0, 0, 0), none, none, some (.aload_n 2, 1, 0, 0, 0), some (.getfield 40, 3, 1, 4, 401), none, none, some (.iload_n 3, 1, 0, 0, 0)],
  [some (.iconst 1, 1, 0, 0, 0), some (.iastore, 1, 0, 0, 0), some (.aload_n 2, 1, 0, 0, 0), some (.getfield 77, 3, 1, 9, 419), none, none, some (.iload_n 3, 1, 0, 0, 0), some (.aload_n 0, 1, 0, 0, 0), some (.getfield 9, 3, 0, 0, 355), none, none, some (.aload_n 1, 1, 0, 0, 0), some (.iload_n 3, 1, 0, 0, 0), some (.invokevirtual 100, 3, 20, 0, 845)],
  [some (.iastore, 1, 0, 0, 0), some (.return_, 1, 0, 0, 0)]], 1, 3, 1, 0)
/-- FallMarket$Ground.<init>()V -/
def jm_M6 : jm_M := (⟨"FallMarket$Ground", "<init>", "()V"⟩, prog_3_method_1_code, 1, none, [[some (.aload_n 0, 1, 0, 0, 0), some (.invokespecial 3, 3, 0, 2, 385), none, none, some (.aload_n 0, 1, 0, 0, 0), some (.iconst 0, 1, 0, 0, 0), some (.putfield 9, 3, 1, 0, 386), none, none, some (.aload_n 0, 1, 0, 0, 0), some (.iconst 0, 1, 0, 0, 0), some (.putfield 15, 3, 1, 1, 390), none, none, some (.aload_n 0, 1, 0, 0, 0), some (.iconst 0, 1, 0, 0, 0)],
  [some (.putfield 18, 3, 1, 2, 392), none, none, some (.aload_n 0, 1, 0, 0, 0), some (.bipush 7, 2, 0, 0, 0), none, some (.newarray .int, 2, 0, 0, 0), none, some (.putfield 21, 3, 1, 13003, 394), none, none, some (.aload_n 0, 1, 0, 0, 0), some (.bipush 7, 2, 0, 0, 0), none, some (.newarray .int, 2, 0, 0, 0)],
  [some (.putfield 25, 3, 1, 13004, 399), none, none, some (.aload_n 0, 1, 0, 0, 0), some (.bipush 7, 2, 0, 0, 0), none, some (.newarray .int, 2, 0, 0, 0), none, some (.putfield 28, 3, 1, 13005, 403), none, none, some (.aload_n 0, 1, 0, 0, 0), some (.bipush 7, 2, 0, 0, 0), none, some (.newarray .int, 2, 0, 0, 0)],
  [some (.putfield 31, 3, 1, 13006, 405), none, none, some (.aload_n 0, 1, 0, 0, 0), some (.bipush 7, 2, 0, 0, 0), none, some (.newarray .int, 2, 0, 0, 0), none, some (.putfield 34, 3, 1, 13007, 409), none, none, some (.aload_n 0, 1, 0, 0, 0), some (.bipush 7, 2, 0, 0, 0), none, some (.newarray .int, 2, 0, 0, 0)],
  [some (.putfield 37, 3, 1, 13008, 413), none, none, some (.aload_n 0, 1, 0, 0, 0), some (.bipush 7, 2, 0, 0, 0), none, some (.newarray .int, 2, 0, 0, 0), none, some (.putfield 40, 3, 1, 13009, 418), none, none, some (.aload_n 0, 1, 0, 0, 0), some (.iconst 4, 1, 0, 0, 0), some (.newarray .int, 2, 0, 0, 0), none, some (.putfield 43, 3, 1, 13010, 421)],
  [none, none, some (.aload_n 0, 1, 0, 0, 0), some (.iconst 4, 1, 0, 0, 0), some (.newarray .int, 2, 0, 0, 0), none, some (.putfield 46, 3, 1, 13011, 423), none, none, some (.return_, 1, 0, 0, 0)]], 1, 0, 2, 1)
/-- FallMarket$Ground.begin(LFallMarket$Text;)V -/
def jm_M7 : jm_M := (⟨"FallMarket$Ground", "begin", "(LFallMarket$Text;)V"⟩, prog_3_method_2_code, 2, none, [[some (.aload_n 0, 1, 0, 0, 0), some (.iconst 0, 1, 0, 0, 0), some (.putfield 9, 3, 1, 0, 386), none, none, some (.aload_n 0, 1, 0, 0, 0), some (.iconst 0, 1, 0, 0, 0), some (.putfield 15, 3, 1, 1, 390), none, none, some (.aload_n 0, 1, 0, 0, 0), some (.iconst 0, 1, 0, 0, 0), some (.putfield 18, 3, 1, 2, 392), none, none, some (.aload_n 1, 1, 0, 0, 0)],
  [some (.getfield 49, 3, 5, 3, 159), none, none, some (.iconst 0, 1, 0, 0, 0), some (.aload_n 0, 1, 0, 0, 0), some (.getfield 21, 3, 1, 3, 394), none, none, some (.iconst 0, 1, 0, 0, 0), some (.bipush 7, 2, 0, 0, 0), none, some (.invokestatic 52, 3, 0, 2, 493), none, none, some (.aload_n 0, 1, 0, 0, 0), some (.getfield 25, 3, 1, 4, 399)],
  [none, none, some (.iconst 0, 1, 0, 0, 0), some (.invokestatic 58, 3, 254, 0, 496), none, none, some (.aload_n 0, 1, 0, 0, 0), some (.getfield 28, 3, 1, 5, 403), none, none, some (.bipush (-2), 2, 0, 0, 0), none, some (.invokestatic 58, 3, 254, 0, 496), none, none, some (.aload_n 0, 1, 0, 0, 0)],
  [some (.getfield 31, 3, 1, 6, 405), none, none, some (.iconst 0, 1, 0, 0, 0), some (.invokestatic 58, 3, 254, 0, 496), none, none, some (.aload_n 0, 1, 0, 0, 0), some (.getfield 34, 3, 1, 7, 409), none, none, some (.iconst 0, 1, 0, 0, 0), some (.invokestatic 58, 3, 254, 0, 496), none, none, some (.aload_n 0, 1, 0, 0, 0)],
  [some (.getfield 37, 3, 1, 8, 413), none, none, some (.iconst 0, 1, 0, 0, 0), some (.invokestatic 58, 3, 254, 0, 496), none, none, some (.aload_n 1, 1, 0, 0, 0), some (.getfield 64, 3, 5, 1, 150), none, none, some (.iconst 0, 1, 0, 0, 0), some (.aload_n 0, 1, 0, 0, 0), some (.getfield 40, 3, 1, 9, 418)],
  [some (.iconst 0, 1, 0, 0, 0), some (.bipush 7, 2, 0, 0, 0), none, some (.invokestatic 52, 3, 0, 2, 493), none, none, some (.aload_n 1, 1, 0, 0, 0), some (.getfield 67, 3, 5, 6, 169), none, none, some (.iconst 0, 1, 0, 0, 0), some (.aload_n 0, 1, 0, 0, 0), some (.getfield 43, 3, 1, 10, 421), none, none, some (.iconst 0, 1, 0, 0, 0)],
  [some (.iconst 4, 1, 0, 0, 0), some (.invokestatic 52, 3, 0, 2, 493), none, none, some (.aload_n 1, 1, 0, 0, 0), some (.getfield 68, 3, 5, 8, 174), none, none, some (.iconst 0, 1, 0, 0, 0), some (.aload_n 0, 1, 0, 0, 0), some (.getfield 46, 3, 1, 11, 423), none, none, some (.iconst 0, 1, 0, 0, 0), some (.iconst 4, 1, 0, 0, 0), some (.invokestatic 52, 3, 0, 2, 493)],
  [none, none, some (.return_, 1, 0, 0, 0)]], 1, 1, 1, 1)
/-- FallMarket$Ground.become(LFallMarket$Ground;)V -/
def jm_M8 : jm_M := (⟨"FallMarket$Ground", "become", "(LFallMarket$Ground;)V"⟩, prog_3_method_3_code, 2, none, [[some (.aload_n 0, 1, 0, 0, 0), some (.aload_n 1, 1, 0, 0, 0), some (.getfield 9, 3, 1, 0, 386), none, none, some (.putfield 9, 3, 1, 0, 386), none, none, some (.aload_n 0, 1, 0, 0, 0), some (.aload_n 1, 1, 0, 0, 0), some (.getfield 15, 3, 1, 1, 390), none, none, some (.putfield 15, 3, 1, 1, 390)],
  [some (.aload_n 0, 1, 0, 0, 0), some (.aload_n 1, 1, 0, 0, 0), some (.getfield 18, 3, 1, 2, 392), none, none, some (.putfield 18, 3, 1, 2, 392), none, none, some (.aload_n 1, 1, 0, 0, 0), some (.getfield 21, 3, 1, 3, 394), none, none, some (.iconst 0, 1, 0, 0, 0), some (.aload_n 0, 1, 0, 0, 0), some (.getfield 21, 3, 1, 3, 394)],
  [none, some (.iconst 0, 1, 0, 0, 0), some (.bipush 7, 2, 0, 0, 0), none, some (.invokestatic 52, 3, 0, 2, 493), none, none, some (.aload_n 1, 1, 0, 0, 0), some (.getfield 25, 3, 1, 4, 399), none, none, some (.iconst 0, 1, 0, 0, 0), some (.aload_n 0, 1, 0, 0, 0), some (.getfield 25, 3, 1, 4, 399)],
  [some (.iconst 0, 1, 0, 0, 0), some (.bipush 7, 2, 0, 0, 0), none, some (.invokestatic 52, 3, 0, 2, 493), none, none, some (.aload_n 1, 1, 0, 0, 0), some (.getfield 28, 3, 1, 5, 403), none, none, some (.iconst 0, 1, 0, 0, 0), some (.aload_n 0, 1, 0, 0, 0), some (.getfield 28, 3, 1, 5, 403), none, none, some (.iconst 0, 1, 0, 0, 0)],
  [some (.bipush 7, 2, 0, 0, 0), none, some (.invokestatic 52, 3, 0, 2, 493), none, none, some (.aload_n 1, 1, 0, 0, 0), some (.getfield 31, 3, 1, 6, 405), none, none, some (.iconst 0, 1, 0, 0, 0), some (.aload_n 0, 1, 0, 0, 0), some (.getfield 31, 3, 1, 6, 405), none, none, some (.iconst 0, 1, 0, 0, 0), some (.bipush 7, 2, 0, 0, 0)],
  [none, some (.invokestatic 52, 3, 0, 2, 493), none, none, some (.aload_n 1, 1, 0, 0, 0), some (.getfield 34, 3, 1, 7, 409), none, none, some (.iconst 0, 1, 0, 0, 0), some (.aload_n 0, 1, 0, 0, 0), some (.getfield 34, 3, 1, 7, 409), none, none, some (.iconst 0, 1, 0, 0, 0), some (.bipush 7, 2, 0, 0, 0)],
  [some (.invokestatic 52, 3, 0, 2, 493), none, none, some (.aload_n 1, 1, 0, 0, 0), some (.getfield 37, 3, 1, 8, 413), none, none, some (.iconst 0, 1, 0, 0, 0), some (.aload_n 0, 1, 0, 0, 0), some (.getfield 37, 3, 1, 8, 413), none, none, some (.iconst 0, 1, 0, 0, 0), some (.bipush 7, 2, 0, 0, 0), none, some (.invokestatic 52, 3, 0, 2, 493)],
  [none, none, some (.aload_n 1, 1, 0, 0, 0), some (.getfield 40, 3, 1, 9, 418), none, none, some (.iconst 0, 1, 0, 0, 0), some (.aload_n 0, 1, 0, 0, 0), some (.getfield 40, 3, 1, 9, 418), none, none, some (.iconst 0, 1, 0, 0, 0), some (.bipush 7, 2, 0, 0, 0), none, some (.invokestatic 52, 3, 0, 2, 493)],
  [none, some (.aload_n 1, 1, 0, 0, 0), some (.getfield 43, 3, 1, 10, 421), none, none, some (.iconst 0, 1, 0, 0, 0), some (.aload_n 0, 1, 0, 0, 0), some (.getfield 43, 3, 1, 10, 421), none, none, some (.iconst 0, 1, 0, 0, 0), some (.iconst 4, 1, 0, 0, 0), some (.invokestatic 52, 3, 0, 2, 493), none, none, some (.aload_n 1, 1, 0, 0, 0)],
  [some (.getfield 46, 3, 1, 11, 423), none, none, some (.iconst 0, 1, 0, 0, 0), some (.aload_n 0, 1, 0, 0, 0), some (.getfield 46, 3, 1, 11, 423), none, none, some (.iconst 0, 1, 0, 0, 0), some (.iconst 4, 1, 0, 0, 0), some (.invokestatic 52, 3, 0, 2, 493), none, none, some (.return_, 1, 0, 0, 0)]], 1, 1, 1, 1)
def jm_M9_r0 : List (Option jm_I) := [some (.iload_n 2, 1, 0, 0, 0), some (.ifCond .lt 12, 3, 0, 0, 0), none, none, some (.iload_n 2, 1, 0, 0, 0), some (.aload_n 1, 1, 0, 0, 0), some (.arraylength, 1, 0, 0, 0), some (.bipush 60, 2, 0, 0, 0), none, some (.isub, 1, 0, 0, 0), some (.if_icmp .le 4, 3, 0, 0, 0), none, none, some (.return_, 1, 0, 0, 0), some (.aload_n 1, 1, 0, 0, 0), some (.iload_n 2, 1, 0, 0, 0)]
def jm_M9_r1 : List (Option jm_I) := [some (.aload_n 0, 1, 0, 0, 0), some (.getfield 9, 3, 1, 0, 386), none, none, some (.iastore, 1, 0, 0, 0), some (.aload_n 1, 1, 0, 0, 0), some (.iload_n 2, 1, 0, 0, 0), some (.iconst 1, 1, 0, 0, 0), some (.iadd, 1, 0, 0, 0), some (.aload_n 0, 1, 0, 0, 0), some (.getfield 15, 3, 1, 1, 390), none, none, some (.iastore, 1, 0, 0, 0), some (.aload_n 1, 1, 0, 0, 0), some (.iload_n 2, 1, 0, 0, 0)]
def jm_M9_r2 : List (Option jm_I) := [some (.iconst 2, 1, 0, 0, 0), some (.iadd, 1, 0, 0, 0), some (.aload_n 0, 1, 0, 0, 0), some (.getfield 18, 3, 1, 2, 392), none, none, some (.iastore, 1, 0, 0, 0), some (.iload_n 2, 1, 0, 0, 0), some (.iconst 3, 1, 0, 0, 0), some (.iadd, 1, 0, 0, 0), some (.istore_n 3, 1, 0, 0, 0), some (.iconst 0, 1, 0, 0, 0), some (.istore 4, 2, 0, 0, 0), none, some (.iload 4, 2, 0, 0, 0)]
def jm_M9_r3 : List (Option jm_I) := [some (.bipush 7, 2, 0, 0, 0), none, some (.if_icmp .ge 95, 3, 0, 0, 0), none, none, some (.aload_n 1, 1, 0, 0, 0), some (.iload_n 3, 1, 0, 0, 0), some (.aload_n 0, 1, 0, 0, 0), some (.getfield 21, 3, 1, 3, 394), none, none, some (.iload 4, 2, 0, 0, 0), none, some (.iaload, 1, 0, 0, 0), some (.iastore, 1, 0, 0, 0), some (.aload_n 1, 1, 0, 0, 0)]
def jm_M9_r4 : List (Option jm_I) := [some (.iload_n 3, 1, 0, 0, 0), some (.iconst 1, 1, 0, 0, 0), some (.iadd, 1, 0, 0, 0), some (.aload_n 0, 1, 0, 0, 0), some (.getfield 25, 3, 1, 4, 399), none, none, some (.iload 4, 2, 0, 0, 0), none, some (.iaload, 1, 0, 0, 0), some (.iastore, 1, 0, 0, 0), some (.aload_n 1, 1, 0, 0, 0), some (.iload_n 3, 1, 0, 0, 0), some (.iconst 2, 1, 0, 0, 0), some (.iadd, 1, 0, 0, 0), some (.aload_n 0, 1, 0, 0, 0)]
def jm_M9_r5 : List (Option jm_I) := [some (.getfield 28, 3, 1, 5, 403), none, none, some (.iload 4, 2, 0, 0, 0), none, some (.iaload, 1, 0, 0, 0), some (.iastore, 1, 0, 0, 0), some (.aload_n 1, 1, 0, 0, 0), some (.iload_n 3, 1, 0, 0, 0), some (.iconst 3, 1, 0, 0, 0), some (.iadd, 1, 0, 0, 0), some (.aload_n 0, 1, 0, 0, 0), some (.getfield 31, 3, 1, 6, 405), none, none, some (.iload 4, 2, 0, 0, 0)]
def jm_M9_r6 : List (Option jm_I) := [none, some (.iaload, 1, 0, 0, 0), some (.iastore, 1, 0, 0, 0), some (.aload_n 1, 1, 0, 0, 0), some (.iload_n 3, 1, 0, 0, 0), some (.iconst 4, 1, 0, 0, 0), some (.iadd, 1, 0, 0, 0), some (.aload_n 0, 1, 0, 0, 0), some (.getfield 34, 3, 1, 7, 409), none, none, some (.iload 4, 2, 0, 0, 0), none, some (.iaload, 1, 0, 0, 0), some (.iastore, 1, 0, 0, 0), some (.aload_n 1, 1, 0, 0, 0)]
def jm_M9_r7 : List (Option jm_I) := [some (.iload_n 3, 1, 0, 0, 0), some (.iconst 5, 1, 0, 0, 0), some (.iadd, 1, 0, 0, 0), some (.aload_n 0, 1, 0, 0, 0), some (.getfield 37, 3, 1, 8, 413), none, none, some (.iload 4, 2, 0, 0, 0), none, some (.iaload, 1, 0, 0, 0), some (.iastore, 1, 0, 0, 0), some (.aload_n 1, 1, 0, 0, 0), some (.iload_n 3, 1, 0, 0, 0), some (.bipush 6, 2, 0, 0, 0), none, some (.iadd, 1, 0, 0, 0)]
def jm_M9_r8 : List (Option jm_I) := [some (.aload_n 0, 1, 0, 0, 0), some (.getfield 40, 3, 1, 9, 418), none, none, some (.iload 4, 2, 0, 0, 0), none, some (.iaload, 1, 0, 0, 0), some (.iastore, 1, 0, 0, 0), some (.iinc 3 7, 3, 0, 0, 0), none, none, some (.iinc 4 1, 3, 0, 0, 0), none, none, some (.goto (-96), 3, 0, 0, 0)]
def jm_M9_r9 : List (Option jm_I) := [none, some (.aload_n 0, 1, 0, 0, 0), some (.getfield 43, 3, 1, 10, 421), none, none, some (.iconst 0, 1, 0, 0, 0), some (.aload_n 1, 1, 0, 0, 0), some (.iload_n 3, 1, 0, 0, 0), some (.iconst 4, 1, 0, 0, 0), some (.invokestatic 52, 3, 0, 2, 493), none, none, some (.aload_n 0, 1, 0, 0, 0), some (.getfield 46, 3, 1, 11, 423)]
def jm_M9_r10 : List (Option jm_I) := [some (.iconst 0, 1, 0, 0, 0), some (.aload_n 1, 1, 0, 0, 0), some (.iload_n 3, 1, 0, 0, 0), some (.iconst 4, 1, 0, 0, 0), some (.iadd, 1, 0, 0, 0), some (.iconst 4, 1, 0, 0, 0), some (.invokestatic 52, 3, 0, 2, 493), none, none, some (.return_, 1, 0, 0, 0)]
/-- FallMarket$Ground.save([II)V -/
def jm_M9 : jm_M := (⟨"FallMarket$Ground", "save", "([II)V"⟩, prog_3_method_4_code, 5, none, [jm_M9_r0, jm_M9_r1, jm_M9_r2, jm_M9_r3, jm_M9_r4, jm_M9_r5, jm_M9_r6, jm_M9_r7, jm_M9_r8, jm_M9_r9, jm_M9_r10], 1, 2, 1, 1)
def jm_M10_r0 : List (Option jm_I) := [some (.iload_n 2, 1, 0, 0, 0), some (.ifCond .lt 12, 3, 0, 0, 0), none, none, some (.iload_n 2, 1, 0, 0, 0), some (.aload_n 1, 1, 0, 0, 0), some (.arraylength, 1, 0, 0, 0), some (.bipush 60, 2, 0, 0, 0), none, some (.isub, 1, 0, 0, 0), some (.if_icmp .le 4, 3, 0, 0, 0), none, none, some (.return_, 1, 0, 0, 0), some (.aload_n 0, 1, 0, 0, 0), some (.aload_n 1, 1, 0, 0, 0)]
def jm_M10_r1 : List (Option jm_I) := [some (.iload_n 2, 1, 0, 0, 0), some (.iaload, 1, 0, 0, 0), some (.putfield 9, 3, 1, 0, 386), none, none, some (.aload_n 0, 1, 0, 0, 0), some (.aload_n 1, 1, 0, 0, 0), some (.iload_n 2, 1, 0, 0, 0), some (.iconst 1, 1, 0, 0, 0), some (.iadd, 1, 0, 0, 0), some (.iaload, 1, 0, 0, 0), some (.putfield 15, 3, 1, 1, 390), none, none, some (.aload_n 0, 1, 0, 0, 0), some (.aload_n 1, 1, 0, 0, 0)]
def jm_M10_r2 : List (Option jm_I) := [some (.iload_n 2, 1, 0, 0, 0), some (.iconst 2, 1, 0, 0, 0), some (.iadd, 1, 0, 0, 0), some (.iaload, 1, 0, 0, 0), some (.putfield 18, 3, 1, 2, 392), none, none, some (.iload_n 2, 1, 0, 0, 0), some (.iconst 3, 1, 0, 0, 0), some (.iadd, 1, 0, 0, 0), some (.istore_n 3, 1, 0, 0, 0), some (.iconst 0, 1, 0, 0, 0), some (.istore 4, 2, 0, 0, 0), none, some (.iload 4, 2, 0, 0, 0)]
def jm_M10_r3 : List (Option jm_I) := [some (.bipush 7, 2, 0, 0, 0), none, some (.if_icmp .ge 95, 3, 0, 0, 0), none, none, some (.aload_n 0, 1, 0, 0, 0), some (.getfield 21, 3, 1, 3, 394), none, none, some (.iload 4, 2, 0, 0, 0), none, some (.aload_n 1, 1, 0, 0, 0), some (.iload_n 3, 1, 0, 0, 0), some (.iaload, 1, 0, 0, 0), some (.iastore, 1, 0, 0, 0), some (.aload_n 0, 1, 0, 0, 0)]
def jm_M10_r4 : List (Option jm_I) := [some (.getfield 25, 3, 1, 4, 399), none, none, some (.iload 4, 2, 0, 0, 0), none, some (.aload_n 1, 1, 0, 0, 0), some (.iload_n 3, 1, 0, 0, 0), some (.iconst 1, 1, 0, 0, 0), some (.iadd, 1, 0, 0, 0), some (.iaload, 1, 0, 0, 0), some (.iastore, 1, 0, 0, 0), some (.aload_n 0, 1, 0, 0, 0), some (.getfield 28, 3, 1, 5, 403), none, none, some (.iload 4, 2, 0, 0, 0)]
def jm_M10_r5 : List (Option jm_I) := [none, some (.aload_n 1, 1, 0, 0, 0), some (.iload_n 3, 1, 0, 0, 0), some (.iconst 2, 1, 0, 0, 0), some (.iadd, 1, 0, 0, 0), some (.iaload, 1, 0, 0, 0), some (.iastore, 1, 0, 0, 0), some (.aload_n 0, 1, 0, 0, 0), some (.getfield 31, 3, 1, 6, 405), none, none, some (.iload 4, 2, 0, 0, 0), none, some (.aload_n 1, 1, 0, 0, 0), some (.iload_n 3, 1, 0, 0, 0), some (.iconst 3, 1, 0, 0, 0)]
def jm_M10_r6 : List (Option jm_I) := [some (.iadd, 1, 0, 0, 0), some (.iaload, 1, 0, 0, 0), some (.iastore, 1, 0, 0, 0), some (.aload_n 0, 1, 0, 0, 0), some (.getfield 34, 3, 1, 7, 409), none, none, some (.iload 4, 2, 0, 0, 0), none, some (.aload_n 1, 1, 0, 0, 0), some (.iload_n 3, 1, 0, 0, 0), some (.iconst 4, 1, 0, 0, 0), some (.iadd, 1, 0, 0, 0), some (.iaload, 1, 0, 0, 0), some (.iastore, 1, 0, 0, 0), some (.aload_n 0, 1, 0, 0, 0)]
def jm_M10_r7 : List (Option jm_I) := [some (.getfield 37, 3, 1, 8, 413), none, none, some (.iload 4, 2, 0, 0, 0), none, some (.aload_n 1, 1, 0, 0, 0), some (.iload_n 3, 1, 0, 0, 0), some (.iconst 5, 1, 0, 0, 0), some (.iadd, 1, 0, 0, 0), some (.iaload, 1, 0, 0, 0), some (.iastore, 1, 0, 0, 0), some (.aload_n 0, 1, 0, 0, 0), some (.getfield 40, 3, 1, 9, 418), none, none, some (.iload 4, 2, 0, 0, 0)]
def jm_M10_r8 : List (Option jm_I) := [none, some (.aload_n 1, 1, 0, 0, 0), some (.iload_n 3, 1, 0, 0, 0), some (.bipush 6, 2, 0, 0, 0), none, some (.iadd, 1, 0, 0, 0), some (.iaload, 1, 0, 0, 0), some (.iastore, 1, 0, 0, 0), some (.iinc 3 7, 3, 0, 0, 0), none, none, some (.iinc 4 1, 3, 0, 0, 0), none, none, some (.goto (-96), 3, 0, 0, 0)]
def jm_M10_r9 : List (Option jm_I) := [none, some (.aload_n 1, 1, 0, 0, 0), some (.iload_n 3, 1, 0, 0, 0), some (.aload_n 0, 1, 0, 0, 0), some (.getfield 43, 3, 1, 10, 421), none, none, some (.iconst 0, 1, 0, 0, 0), some (.iconst 4, 1, 0, 0, 0), some (.invokestatic 52, 3, 0, 2, 493), none, none, some (.aload_n 1, 1, 0, 0, 0), some (.iload_n 3, 1, 0, 0, 0), some (.iconst 4, 1, 0, 0, 0), some (.iadd, 1, 0, 0, 0)]
def jm_M10_r10 : List (Option jm_I) := [some (.aload_n 0, 1, 0, 0, 0), some (.getfield 46, 3, 1, 11, 423), none, none, some (.iconst 0, 1, 0, 0, 0), some (.iconst 4, 1, 0, 0, 0), some (.invokestatic 52, 3, 0, 2, 493), none, none, some (.return_, 1, 0, 0, 0)]
/-- FallMarket$Ground.load([II)V -/
def jm_M10 : jm_M := (⟨"FallMarket$Ground", "load", "([II)V"⟩, prog_3_method_5_code, 5, none, [jm_M10_r0, jm_M10_r1, jm_M10_r2, jm_M10_r3, jm_M10_r4, jm_M10_r5, jm_M10_r6, jm_M10_r7, jm_M10_r8, jm_M10_r9, jm_M10_r10], 1, 2, 1, 1)
/-- FallMarket$Ground.bits(II)I -/
def jm_M11 : jm_M := (⟨"FallMarket$Ground", "bits", "(II)I"⟩, prog_3_method_6_code, 5, some .int, [[some (.iconst 0, 1, 0, 0, 0), some (.istore_n 3, 1, 0, 0, 0), some (.iconst 0, 1, 0, 0, 0), some (.istore 4, 2, 0, 0, 0), none, some (.iload 4, 2, 0, 0, 0), none, some (.iload_n 2, 1, 0, 0, 0), some (.if_icmp .ge 34, 3, 0, 0, 0), none, none, some (.iload 4, 2, 0, 0, 0), none, some (.bipush 7, 2, 0, 0, 0), none, some (.if_icmp .ge 27, 3, 0, 0, 0)],
  [none, none, some (.aload_n 0, 1, 0, 0, 0), some (.getfield 25, 3, 1, 4, 399), none, none, some (.iload 4, 2, 0, 0, 0), none, some (.iaload, 1, 0, 0, 0), some (.iload_n 1, 1, 0, 0, 0), some (.if_icmp .ne 10, 3, 0, 0, 0), none, none, some (.iload_n 3, 1, 0, 0, 0), some (.iconst 1, 1, 0, 0, 0), some (.iload 4, 2, 0, 0, 0)],
  [none, some (.ishl, 1, 0, 0, 0), some (.ior, 1, 0, 0, 0), some (.istore_n 3, 1, 0, 0, 0), some (.iinc 4 1, 3, 0, 0, 0), none, none, some (.goto (-34), 3, 0, 0, 0), none, none, some (.iload_n 3, 1, 0, 0, 0), some (.ireturn, 1, 0, 0, 0)]], 1, 2, 1, 1)
/-- FallMarket$Ground.howMany(II)I -/
def jm_M12 : jm_M := (⟨"FallMarket$Ground", "howMany", "(II)I"⟩, prog_3_method_7_code, 3, some .int, [[some (.aload_n 0, 1, 0, 0, 0), some (.iload_n 1, 1, 0, 0, 0), some (.iload_n 2, 1, 0, 0, 0), some (.invokevirtual 69, 3, 11, 0, 764), none, none, some (.invokestatic 73, 3, 239, 0, 768), none, none, some (.ireturn, 1, 0, 0, 0)]], 1, 2, 1, 1)
/-- FallMarket$Ground.nearest(LFallMarket$Text;II)I -/
def jm_M13 : jm_M := (⟨"FallMarket$Ground", "nearest", "(LFallMarket$Text;II)I"⟩, prog_3_method_8_code, 8, some .int, [[some (.bipush (-2), 2, 0, 0, 0), none, some (.istore 4, 2, 0, 0, 0), none, some (.iconst 4, 1, 0, 0, 0), some (.istore 5, 2, 0, 0, 0), none, some (.iconst 0, 1, 0, 0, 0), some (.istore 6, 2, 0, 0, 0), none, some (.iload 6, 2, 0, 0, 0), none, some (.aload_n 1, 1, 0, 0, 0), some (.getfield 79, 3, 5, 5, 166)],
  [some (.if_icmp .ge 61, 3, 0, 0, 0), none, none, some (.aload_n 0, 1, 0, 0, 0), some (.getfield 43, 3, 1, 10, 421), none, none, some (.iload 6, 2, 0, 0, 0), none, some (.iaload, 1, 0, 0, 0), some (.iload_n 2, 1, 0, 0, 0), some (.isub, 1, 0, 0, 0), some (.invokestatic 82, 3, 240, 0, 842), none, none, some (.istore 7, 2, 0, 0, 0)],
  [none, some (.iload 7, 2, 0, 0, 0), none, some (.aload_n 1, 1, 0, 0, 0), some (.getfield 87, 3, 5, 7, 172), none, none, some (.iload 6, 2, 0, 0, 0), none, some (.iaload, 1, 0, 0, 0), some (.if_icmp .gt 29, 3, 0, 0, 0), none, none, some (.iload 7, 2, 0, 0, 0), none, some (.iload 5, 2, 0, 0, 0)],
  [none, some (.if_icmp .ge 22, 3, 0, 0, 0), none, none, some (.aload_n 0, 1, 0, 0, 0), some (.getfield 46, 3, 1, 11, 423), none, none, some (.iload 6, 2, 0, 0, 0), none, some (.iaload, 1, 0, 0, 0), some (.iload_n 3, 1, 0, 0, 0), some (.if_icmp .lt 11, 3, 0, 0, 0), none, none, some (.iload 7, 2, 0, 0, 0)],
  [none, some (.istore 5, 2, 0, 0, 0), none, some (.iload 6, 2, 0, 0, 0), none, some (.istore 4, 2, 0, 0, 0), none, some (.iinc 6 1, 3, 0, 0, 0), none, none, some (.goto (-64), 3, 0, 0, 0), none, none, some (.iload 4, 2, 0, 0, 0), none, some (.ireturn, 1, 0, 0, 0)]], 1, 3, 1, 1)
/-- FallMarket$Ground.firstAt(LFallMarket$Text;II)I -/
def jm_M14 : jm_M := (⟨"FallMarket$Ground", "firstAt", "(LFallMarket$Text;II)I"⟩, prog_3_method_9_code, 5, some .int, [[some (.iconst 0, 1, 0, 0, 0), some (.istore 4, 2, 0, 0, 0), none, some (.iload 4, 2, 0, 0, 0), none, some (.aload_n 1, 1, 0, 0, 0), some (.getfield 79, 3, 5, 5, 166), none, none, some (.if_icmp .ge 34, 3, 0, 0, 0), none, none, some (.aload_n 0, 1, 0, 0, 0), some (.getfield 43, 3, 1, 10, 421)],
  [some (.iload 4, 2, 0, 0, 0), none, some (.iaload, 1, 0, 0, 0), some (.iload_n 2, 1, 0, 0, 0), some (.if_icmp .ne 17, 3, 0, 0, 0), none, none, some (.aload_n 0, 1, 0, 0, 0), some (.getfield 46, 3, 1, 11, 423), none, none, some (.iload 4, 2, 0, 0, 0), none, some (.iaload, 1, 0, 0, 0), some (.iload_n 3, 1, 0, 0, 0), some (.if_icmp .lt 6, 3, 0, 0, 0)],
  [none, none, some (.iload 4, 2, 0, 0, 0), none, some (.ireturn, 1, 0, 0, 0), some (.iinc 4 1, 3, 0, 0, 0), none, none, some (.goto (-37), 3, 0, 0, 0), none, none, some (.bipush (-2), 2, 0, 0, 0), none, some (.ireturn, 1, 0, 0, 0)]], 1, 3, 1, 1)
/-- FallMarket$Ground.sell(III)V -/
def jm_M15 : jm_M := (⟨"FallMarket$Ground", "sell", "(III)V"⟩, prog_3_method_10_code, 4, none, [[some (.aload_n 0, 1, 0, 0, 0), some (.getfield 25, 3, 1, 4, 399), none, none, some (.iload_n 1, 1, 0, 0, 0), some (.iconst 2, 1, 0, 0, 0), some (.iastore, 1, 0, 0, 0), some (.aload_n 0, 1, 0, 0, 0), some (.getfield 28, 3, 1, 5, 403), none, none, some (.iload_n 1, 1, 0, 0, 0), some (.iload_n 2, 1, 0, 0, 0), some (.iastore, 1, 0, 0, 0), some (.aload_n 0, 1, 0, 0, 0), some (.getfield 46, 3, 1, 11, 423)],
  [none, none, some (.iload_n 2, 1, 0, 0, 0), some (.dup2, 1, 0, 0, 0), some (.iaload, 1, 0, 0, 0), some (.iload_n 3, 1, 0, 0, 0), some (.isub, 1, 0, 0, 0), some (.iastore, 1, 0, 0, 0), some (.return_, 1, 0, 0, 0)]], 1, 3, 1, 1)
/-- FallMarket$Laws.<init>()V -/
def jm_M16 : jm_M := (⟨"FallMarket$Laws", "<init>", "()V"⟩, prog_4_method_1_code, 1, none, [[some (.aload_n 0, 1, 0, 0, 0), some (.invokespecial 3, 3, 0, 2, 339), none, none, some (.aload_n 0, 1, 0, 0, 0), some (.bipush 9, 2, 0, 0, 0), none, some (.newarray .int, 2, 0, 0, 0), none, some (.putfield 9, 3, 2, 13000, 340), none, none, some (.aload_n 0, 1, 0, 0, 0), some (.bipush 32, 2, 0, 0, 0), none, some (.newarray .int, 2, 0, 0, 0)],
  [none, some (.putfield 15, 3, 2, 13001, 343), none, none, some (.return_, 1, 0, 0, 0)]], 1, 0, 2, 2)
/-- FallMarket$Laws.setHour(LFallMarket$Text;II)V -/
def jm_M17 : jm_M := (⟨"FallMarket$Laws", "setHour", "(LFallMarket$Text;II)V"⟩, prog_4_method_2_code, 4, none, [[some (.aload_n 0, 1, 0, 0, 0), some (.getfield 9, 3, 2, 0, 340), none, none, some (.iconst 2, 1, 0, 0, 0), some (.iload_n 2, 1, 0, 0, 0), some (.iastore, 1, 0, 0, 0), some (.aload_n 0, 1, 0, 0, 0), some (.getfield 9, 3, 2, 0, 340), none, none, some (.bipush 8, 2, 0, 0, 0), none, some (.iload_n 3, 1, 0, 0, 0), some (.iastore, 1, 0, 0, 0), some (.aload_n 0, 1, 0, 0, 0)],
  [some (.getfield 9, 3, 2, 0, 340), none, none, some (.iconst 3, 1, 0, 0, 0), some (.aload_n 0, 1, 0, 0, 0), some (.aload_n 1, 1, 0, 0, 0), some (.iconst 0, 1, 0, 0, 0), some (.invokevirtual 18, 3, 21, 0, 507), none, none, some (.iastore, 1, 0, 0, 0), some (.return_, 1, 0, 0, 0)]], 1, 3, 1, 2)
/-- FallMarket$Laws.setFruit(LFallMarket$Text;LFallMarket$Ground;I)V -/
def jm_M18 : jm_M := (⟨"FallMarket$Laws", "setFruit", "(LFallMarket$Text;LFallMarket$Ground;I)V"⟩, prog_4_method_3_code, 4, none, [[some (.aload_n 0, 1, 0, 0, 0), some (.getfield 9, 3, 2, 0, 340), none, none, some (.iconst 0, 1, 0, 0, 0), some (.aload_n 2, 1, 0, 0, 0), some (.getfield 22, 3, 1, 3, 396), none, none, some (.iload_n 3, 1, 0, 0, 0), some (.iaload, 1, 0, 0, 0), some (.iastore, 1, 0, 0, 0), some (.aload_n 0, 1, 0, 0, 0), some (.getfield 9, 3, 2, 0, 340)],
  [some (.iconst 1, 1, 0, 0, 0), some (.aload_n 1, 1, 0, 0, 0), some (.getfield 27, 3, 5, 2, 155), none, none, some (.iload_n 3, 1, 0, 0, 0), some (.iaload, 1, 0, 0, 0), some (.iastore, 1, 0, 0, 0), some (.aload_n 0, 1, 0, 0, 0), some (.getfield 9, 3, 2, 0, 340), none, none, some (.iconst 4, 1, 0, 0, 0), some (.aload_n 1, 1, 0, 0, 0), some (.getfield 32, 3, 5, 1, 151)],
  [none, some (.iload_n 3, 1, 0, 0, 0), some (.iaload, 1, 0, 0, 0), some (.iastore, 1, 0, 0, 0), some (.aload_n 0, 1, 0, 0, 0), some (.getfield 9, 3, 2, 0, 340), none, none, some (.iconst 5, 1, 0, 0, 0), some (.aload_n 2, 1, 0, 0, 0), some (.getfield 35, 3, 1, 8, 415), none, none, some (.iload_n 3, 1, 0, 0, 0), some (.iaload, 1, 0, 0, 0), some (.iastore, 1, 0, 0, 0)],
  [some (.aload_n 0, 1, 0, 0, 0), some (.getfield 9, 3, 2, 0, 340), none, none, some (.bipush 6, 2, 0, 0, 0), none, some (.aload_n 2, 1, 0, 0, 0), some (.getfield 38, 3, 1, 7, 411), none, none, some (.iload_n 3, 1, 0, 0, 0), some (.iaload, 1, 0, 0, 0), some (.iastore, 1, 0, 0, 0), some (.aload_n 0, 1, 0, 0, 0), some (.getfield 9, 3, 2, 0, 340)],
  [none, some (.bipush 7, 2, 0, 0, 0), none, some (.aload_n 2, 1, 0, 0, 0), some (.getfield 41, 3, 1, 6, 406), none, none, some (.iload_n 3, 1, 0, 0, 0), some (.iaload, 1, 0, 0, 0), some (.iastore, 1, 0, 0, 0), some (.return_, 1, 0, 0, 0)]], 1, 3, 1, 2)
/-- FallMarket$Laws.settleRests(LFallMarket$Text;)V -/
def jm_M19 : jm_M := (⟨"FallMarket$Laws", "settleRests", "(LFallMarket$Text;)V"⟩, prog_4_method_4_code, 3, none, [[some (.aload_n 0, 1, 0, 0, 0), some (.aload_n 1, 1, 0, 0, 0), some (.iconst 0, 1, 0, 0, 0), some (.aload_n 1, 1, 0, 0, 0), some (.getfield 44, 3, 5, 0, 144), none, none, some (.invokevirtual 48, 3, 17, 0, 503), none, none, some (.iconst 0, 1, 0, 0, 0), some (.istore_n 2, 1, 0, 0, 0), some (.iload_n 2, 1, 0, 0, 0), some (.aload_n 1, 1, 0, 0, 0), some (.getfield 44, 3, 5, 0, 144)],
  [none, some (.if_icmp .ge 57, 3, 0, 0, 0), none, none, some (.aload_n 0, 1, 0, 0, 0), some (.getfield 9, 3, 2, 0, 340), none, none, some (.iconst 0, 1, 0, 0, 0), some (.aload_n 1, 1, 0, 0, 0), some (.getfield 52, 3, 5, 3, 160), none, none, some (.iload_n 2, 1, 0, 0, 0), some (.iaload, 1, 0, 0, 0), some (.iastore, 1, 0, 0, 0)],
  [some (.aload_n 0, 1, 0, 0, 0), some (.getfield 9, 3, 2, 0, 340), none, none, some (.iconst 1, 1, 0, 0, 0), some (.aload_n 1, 1, 0, 0, 0), some (.getfield 27, 3, 5, 2, 155), none, none, some (.iload_n 2, 1, 0, 0, 0), some (.iaload, 1, 0, 0, 0), some (.iastore, 1, 0, 0, 0), some (.aload_n 0, 1, 0, 0, 0), some (.getfield 9, 3, 2, 0, 340)],
  [some (.iconst 4, 1, 0, 0, 0), some (.aload_n 1, 1, 0, 0, 0), some (.getfield 32, 3, 5, 1, 151), none, none, some (.iload_n 2, 1, 0, 0, 0), some (.iaload, 1, 0, 0, 0), some (.iastore, 1, 0, 0, 0), some (.aload_n 1, 1, 0, 0, 0), some (.getfield 53, 3, 5, 4, 162), none, none, some (.iload_n 2, 1, 0, 0, 0), some (.aload_n 0, 1, 0, 0, 0), some (.aload_n 1, 1, 0, 0, 0), some (.iload_n 2, 1, 0, 0, 0)],
  [some (.invokevirtual 56, 3, 20, 0, 531), none, none, some (.iastore, 1, 0, 0, 0), some (.iinc 2 1, 3, 0, 0, 0), none, none, some (.goto (-59), 3, 0, 0, 0), none, none, some (.return_, 1, 0, 0, 0)]], 1, 1, 1, 2)
/-- FallMarket$Laws.bounced(LFallMarket$Text;I)I -/
def jm_M20 : jm_M := (⟨"FallMarket$Laws", "bounced", "(LFallMarket$Text;I)I"⟩, prog_4_method_5_code, 3, some .int, [[some (.aload_n 1, 1, 0, 0, 0), some (.getfield 32, 3, 5, 1, 151), none, none, some (.iload_n 2, 1, 0, 0, 0), some (.iaload, 1, 0, 0, 0), some (.aload_n 0, 1, 0, 0, 0), some (.aload_n 1, 1, 0, 0, 0), some (.iconst 4, 1, 0, 0, 0), some (.invokevirtual 18, 3, 21, 0, 507), none, none, some (.iadd, 1, 0, 0, 0), some (.iconst 0, 1, 0, 0, 0), some (.bipush 9, 2, 0, 0, 0)],
  [some (.invokestatic 59, 3, 129, 1, 522), none, none, some (.ireturn, 1, 0, 0, 0)]], 1, 2, 1, 2)
/-- FallMarket$Laws.told(LFallMarket$Text;I)I -/
def jm_M21 : jm_M := (⟨"FallMarket$Laws", "told", "(LFallMarket$Text;I)I"⟩, prog_4_method_6_code, 3, some .int, [[some (.aload_n 0, 1, 0, 0, 0), some (.aload_n 1, 1, 0, 0, 0), some (.aload_n 1, 1, 0, 0, 0), some (.getfield 63, 3, 5, 12, 185), none, none, some (.iload_n 2, 1, 0, 0, 0), some (.iaload, 1, 0, 0, 0), some (.invokevirtual 66, 3, 22, 0, 511), none, none, some (.getstatic 69, 3, 0, 0, 518), none, none, some (.iload_n 2, 1, 0, 0, 0), some (.iaload, 1, 0, 0, 0)],
  [some (.getstatic 72, 3, 1, 0, 520), none, none, some (.iload_n 2, 1, 0, 0, 0), some (.iaload, 1, 0, 0, 0), some (.invokestatic 59, 3, 129, 1, 522), none, none, some (.ireturn, 1, 0, 0, 0)]], 1, 2, 1, 2)
def jm_M22_r0 : List (Option jm_I) := [some (.iload_n 2, 1, 0, 0, 0), some (.istore_n 3, 1, 0, 0, 0), some (.iconst 0, 1, 0, 0, 0), some (.istore 4, 2, 0, 0, 0), none, some (.iconst 0, 1, 0, 0, 0), some (.istore 5, 2, 0, 0, 0), none, some (.iload 5, 2, 0, 0, 0), none, some (.sipush 512, 3, 0, 0, 0), none, none, some (.if_icmp .ge 217, 3, 0, 0, 0)]
def jm_M22_r1 : List (Option jm_I) := [some (.iload_n 3, 1, 0, 0, 0), some (.ifCond .lt 12, 3, 0, 0, 0), none, none, some (.iload_n 3, 1, 0, 0, 0), some (.iconst 1, 1, 0, 0, 0), some (.iadd, 1, 0, 0, 0), some (.sipush 512, 3, 0, 0, 0), none, none, some (.if_icmp .lt 5, 3, 0, 0, 0), none, none, some (.iconst 0, 1, 0, 0, 0), some (.ireturn, 1, 0, 0, 0), some (.aload_n 1, 1, 0, 0, 0)]
def jm_M22_r2 : List (Option jm_I) := [some (.getfield 75, 3, 5, 13, 188), none, none, some (.iload_n 3, 1, 0, 0, 0), some (.iaload, 1, 0, 0, 0), some (.istore 6, 2, 0, 0, 0), none, some (.iinc 3 1, 3, 0, 0, 0), none, none, some (.iload 6, 2, 0, 0, 0), none, some (.bipush (-9), 2, 0, 0, 0), none, some (.if_icmp .lt 44, 3, 0, 0, 0)]
def jm_M22_r3 : List (Option jm_I) := [none, some (.iload 4, 2, 0, 0, 0), none, some (.bipush 32, 2, 0, 0, 0), none, some (.if_icmp .lt 5, 3, 0, 0, 0), none, none, some (.iconst 0, 1, 0, 0, 0), some (.ireturn, 1, 0, 0, 0), some (.aload_n 0, 1, 0, 0, 0), some (.getfield 15, 3, 2, 1, 343), none, none, some (.iload 4, 2, 0, 0, 0)]
def jm_M22_r4 : List (Option jm_I) := [some (.iload 6, 2, 0, 0, 0), none, some (.ifCond .lt 8, 3, 0, 0, 0), none, none, some (.iload 6, 2, 0, 0, 0), none, some (.goto 12, 3, 0, 0, 0), none, none, some (.aload_n 0, 1, 0, 0, 0), some (.getfield 9, 3, 2, 0, 340), none, none, some (.iconst (-1), 1, 0, 0, 0), some (.iload 6, 2, 0, 0, 0)]
def jm_M22_r5 : List (Option jm_I) := [none, some (.isub, 1, 0, 0, 0), some (.iaload, 1, 0, 0, 0), some (.iastore, 1, 0, 0, 0), some (.iinc 4 1, 3, 0, 0, 0), none, none, some (.goto 137, 3, 0, 0, 0), none, none, some (.iload 6, 2, 0, 0, 0), none, some (.bipush (-14), 2, 0, 0, 0), none, some (.if_icmp .ne 23, 3, 0, 0, 0)]
def jm_M22_r6 : List (Option jm_I) := [none, some (.iload 4, 2, 0, 0, 0), none, some (.iconst 1, 1, 0, 0, 0), some (.if_icmp .lt 15, 3, 0, 0, 0), none, none, some (.aload_n 0, 1, 0, 0, 0), some (.getfield 15, 3, 2, 1, 343), none, none, some (.iload 4, 2, 0, 0, 0), none, some (.iconst 1, 1, 0, 0, 0), some (.isub, 1, 0, 0, 0), some (.iaload, 1, 0, 0, 0)]
def jm_M22_r7 : List (Option jm_I) := [some (.goto 4, 3, 0, 0, 0), none, none, some (.iconst 0, 1, 0, 0, 0), some (.ireturn, 1, 0, 0, 0), some (.iload 4, 2, 0, 0, 0), none, some (.iconst 2, 1, 0, 0, 0), some (.if_icmp .ge 5, 3, 0, 0, 0), none, none, some (.iconst 0, 1, 0, 0, 0), some (.ireturn, 1, 0, 0, 0), some (.iload 6, 2, 0, 0, 0), none, some (.bipush (-15), 2, 0, 0, 0)]
def jm_M22_r8 : List (Option jm_I) := [none, some (.if_icmp .ne 41, 3, 0, 0, 0), none, none, some (.iinc 4 (-2), 3, 0, 0, 0), none, none, some (.aload_n 0, 1, 0, 0, 0), some (.getfield 15, 3, 2, 1, 343), none, none, some (.iload 4, 2, 0, 0, 0), none, some (.iaload, 1, 0, 0, 0), some (.aload_n 0, 1, 0, 0, 0), some (.getfield 15, 3, 2, 1, 343)]
def jm_M22_r9 : List (Option jm_I) := [none, none, some (.iload 4, 2, 0, 0, 0), none, some (.iconst 1, 1, 0, 0, 0), some (.iadd, 1, 0, 0, 0), some (.iaload, 1, 0, 0, 0), some (.if_icmp .ge 9, 3, 0, 0, 0), none, none, some (.iload_n 3, 1, 0, 0, 0), some (.iconst 1, 1, 0, 0, 0), some (.iadd, 1, 0, 0, 0), some (.goto 9, 3, 0, 0, 0)]
def jm_M22_r10 : List (Option jm_I) := [some (.aload_n 1, 1, 0, 0, 0), some (.getfield 75, 3, 5, 13, 188), none, none, some (.iload_n 3, 1, 0, 0, 0), some (.iaload, 1, 0, 0, 0), some (.istore_n 3, 1, 0, 0, 0), some (.goto 57, 3, 0, 0, 0), none, none, some (.iload 6, 2, 0, 0, 0), none, some (.bipush (-13), 2, 0, 0, 0), none, some (.if_icmp .ne 17, 3, 0, 0, 0)]
def jm_M22_r11 : List (Option jm_I) := [none, some (.aload_n 0, 1, 0, 0, 0), some (.getfield 15, 3, 2, 1, 343), none, none, some (.iload 4, 2, 0, 0, 0), none, some (.iconst 1, 1, 0, 0, 0), some (.isub, 1, 0, 0, 0), some (.iaload, 1, 0, 0, 0), some (.ifCond .ne 5, 3, 0, 0, 0), none, none, some (.iconst 0, 1, 0, 0, 0), some (.ireturn, 1, 0, 0, 0), some (.iinc 4 (-1), 3, 0, 0, 0)]
def jm_M22_r12 : List (Option jm_I) := [none, none, some (.aload_n 0, 1, 0, 0, 0), some (.getfield 15, 3, 2, 1, 343), none, none, some (.iload 4, 2, 0, 0, 0), none, some (.iconst 1, 1, 0, 0, 0), some (.isub, 1, 0, 0, 0), some (.iload 6, 2, 0, 0, 0), none, some (.aload_n 0, 1, 0, 0, 0), some (.getfield 15, 3, 2, 1, 343)]
def jm_M22_r13 : List (Option jm_I) := [some (.iload 4, 2, 0, 0, 0), none, some (.iconst 1, 1, 0, 0, 0), some (.isub, 1, 0, 0, 0), some (.iaload, 1, 0, 0, 0), some (.aload_n 0, 1, 0, 0, 0), some (.getfield 15, 3, 2, 1, 343), none, none, some (.iload 4, 2, 0, 0, 0), none, some (.iaload, 1, 0, 0, 0), some (.invokestatic 78, 3, 23, 0, 515), none, none, some (.iastore, 1, 0, 0, 0)]
def jm_M22_r14 : List (Option jm_I) := [some (.iinc 5 1, 3, 0, 0, 0), none, none, some (.goto (-219), 3, 0, 0, 0), none, none, some (.iconst 0, 1, 0, 0, 0), some (.ireturn, 1, 0, 0, 0)]
/-- FallMarket$Laws.worked(LFallMarket$Text;I)I -/
def jm_M22 : jm_M := (⟨"FallMarket$Laws", "worked", "(LFallMarket$Text;I)I"⟩, prog_4_method_7_code, 7, some .int, [jm_M22_r0, jm_M22_r1, jm_M22_r2, jm_M22_r3, jm_M22_r4, jm_M22_r5, jm_M22_r6, jm_M22_r7, jm_M22_r8, jm_M22_r9, jm_M22_r10, jm_M22_r11, jm_M22_r12, jm_M22_r13, jm_M22_r14], 1, 2, 1, 2)
/-- FallMarket$Laws.joined(III)I -/
def jm_M23 : jm_M := (⟨"FallMarket$Laws", "joined", "(III)I"⟩, prog_4_method_8_code, 3, some .int, [[some (.iload_n 0, 1, 0, 0, 0), some (.tableswitch 39 (-12) (-10) #[35, 31, 27], 27, 0, 0, 0)],
  [none, none, none, none, none, none, none, none, none, none, none, none, some (.iload_n 1, 1, 0, 0, 0), some (.iload_n 2, 1, 0, 0, 0), some (.iadd, 1, 0, 0, 0), some (.ireturn, 1, 0, 0, 0)],
  [some (.iload_n 1, 1, 0, 0, 0), some (.iload_n 2, 1, 0, 0, 0), some (.isub, 1, 0, 0, 0), some (.ireturn, 1, 0, 0, 0), some (.iload_n 1, 1, 0, 0, 0), some (.iload_n 2, 1, 0, 0, 0), some (.imul, 1, 0, 0, 0), some (.ireturn, 1, 0, 0, 0), some (.iload_n 2, 1, 0, 0, 0), some (.ifCond .ne 7, 3, 0, 0, 0), none, none, some (.iconst 0, 1, 0, 0, 0), some (.goto 6, 3, 0, 0, 0)],
  [some (.iload_n 1, 1, 0, 0, 0), some (.iload_n 2, 1, 0, 0, 0), some (.idiv, 1, 0, 0, 0), some (.ireturn, 1, 0, 0, 0)]], 1, 3, 0, 2)
/-- FallMarket$Outlook.<init>(LFallMarket$Laws;)V -/
def jm_M24 : jm_M := (⟨"FallMarket$Outlook", "<init>", "(LFallMarket$Laws;)V"⟩, prog_5_method_1_code, 2, none, [[some (.aload_n 0, 1, 0, 0, 0), some (.invokespecial 3, 3, 0, 2, 364), none, none, some (.aload_n 0, 1, 0, 0, 0), some (.iconst 4, 1, 0, 0, 0), some (.newarray .int, 2, 0, 0, 0), none, some (.putfield 9, 3, 3, 13000, 365), none, none, some (.aload_n 0, 1, 0, 0, 0), some (.iconst 4, 1, 0, 0, 0), some (.newarray .int, 2, 0, 0, 0), none, some (.putfield 15, 3, 3, 13001, 367)],
  [none, none, some (.aload_n 0, 1, 0, 0, 0), some (.bipush 7, 2, 0, 0, 0), none, some (.newarray .long, 2, 0, 0, 0), none, some (.putfield 18, 3, 3, 13002, 368), none, none, some (.aload_n 0, 1, 0, 0, 0), some (.aload_n 1, 1, 0, 0, 0), some (.putfield 22, 3, 3, 13003, 370), none, none, some (.return_, 1, 0, 0, 0)]], 1, 1, 2, 3)
def jm_M25_r0 : List (Option jm_I) := [some (.aload_n 2, 1, 0, 0, 0), some (.iconst 0, 1, 0, 0, 0), some (.aload_n 1, 1, 0, 0, 0), some (.getfield 26, 3, 5, 0, 143), none, none, some (.invokevirtual 32, 3, 12, 0, 868), none, none, some (.istore 6, 2, 0, 0, 0), none, some (.aload_n 2, 1, 0, 0, 0), some (.getfield 38, 3, 1, 3, 395), none, none, some (.iload_n 3, 1, 0, 0, 0)]
def jm_M25_r1 : List (Option jm_I) := [some (.iaload, 1, 0, 0, 0), some (.istore 7, 2, 0, 0, 0), none, some (.iconst 0, 1, 0, 0, 0), some (.istore 8, 2, 0, 0, 0), none, some (.iload 8, 2, 0, 0, 0), none, some (.iload 4, 2, 0, 0, 0), none, some (.if_icmp .ge 141, 3, 0, 0, 0), none, none, some (.iload 8, 2, 0, 0, 0), none, some (.iconst 4, 1, 0, 0, 0)]
def jm_M25_r2 : List (Option jm_I) := [some (.if_icmp .ge 135, 3, 0, 0, 0), none, none, some (.aload_n 0, 1, 0, 0, 0), some (.getfield 22, 3, 3, 3, 370), none, none, some (.aload_n 1, 1, 0, 0, 0), some (.aload_n 2, 1, 0, 0, 0), some (.getfield 41, 3, 1, 0, 387), none, none, some (.iload 8, 2, 0, 0, 0), none, some (.iadd, 1, 0, 0, 0), some (.iload 6, 2, 0, 0, 0)]
def jm_M25_r3 : List (Option jm_I) := [none, some (.invokevirtual 44, 3, 17, 0, 869), none, none, some (.aload_n 0, 1, 0, 0, 0), some (.getfield 22, 3, 3, 3, 370), none, none, some (.aload_n 1, 1, 0, 0, 0), some (.aload_n 2, 1, 0, 0, 0), some (.iload_n 3, 1, 0, 0, 0), some (.invokevirtual 50, 3, 18, 0, 870), none, none, some (.aload_n 0, 1, 0, 0, 0), some (.getfield 22, 3, 3, 3, 370)]
def jm_M25_r4 : List (Option jm_I) := [none, none, some (.getfield 54, 3, 2, 0, 341), none, none, some (.iconst 0, 1, 0, 0, 0), some (.iload 7, 2, 0, 0, 0), none, some (.iastore, 1, 0, 0, 0), some (.aload_n 0, 1, 0, 0, 0), some (.getfield 22, 3, 3, 3, 370), none, none, some (.getfield 54, 3, 2, 0, 341)]
def jm_M25_r5 : List (Option jm_I) := [some (.iconst 5, 1, 0, 0, 0), some (.iload 8, 2, 0, 0, 0), none, some (.ifCond .ne 12, 3, 0, 0, 0), none, none, some (.aload_n 2, 1, 0, 0, 0), some (.getfield 57, 3, 1, 8, 414), none, none, some (.iload_n 3, 1, 0, 0, 0), some (.iaload, 1, 0, 0, 0), some (.goto 4, 3, 0, 0, 0), none, none, some (.iconst 0, 1, 0, 0, 0)]
def jm_M25_r6 : List (Option jm_I) := [some (.iastore, 1, 0, 0, 0), some (.aload_n 0, 1, 0, 0, 0), some (.getfield 22, 3, 3, 3, 370), none, none, some (.getfield 54, 3, 2, 0, 341), none, none, some (.bipush 6, 2, 0, 0, 0), none, some (.iload 5, 2, 0, 0, 0), none, some (.iastore, 1, 0, 0, 0), some (.aload_n 0, 1, 0, 0, 0), some (.getfield 9, 3, 3, 0, 365)]
def jm_M25_r7 : List (Option jm_I) := [none, some (.iload 8, 2, 0, 0, 0), none, some (.aload_n 0, 1, 0, 0, 0), some (.getfield 22, 3, 3, 3, 370), none, none, some (.aload_n 1, 1, 0, 0, 0), some (.iconst 2, 1, 0, 0, 0), some (.invokevirtual 60, 3, 21, 0, 871), none, none, some (.iastore, 1, 0, 0, 0), some (.aload_n 0, 1, 0, 0, 0), some (.getfield 15, 3, 3, 1, 367)]
def jm_M25_r8 : List (Option jm_I) := [none, some (.iload 8, 2, 0, 0, 0), none, some (.aload_n 0, 1, 0, 0, 0), some (.getfield 22, 3, 3, 3, 370), none, none, some (.aload_n 1, 1, 0, 0, 0), some (.iconst 3, 1, 0, 0, 0), some (.invokevirtual 60, 3, 21, 0, 871), none, none, some (.iastore, 1, 0, 0, 0), some (.iload 7, 2, 0, 0, 0), none, some (.aload_n 0, 1, 0, 0, 0)]
def jm_M25_r9 : List (Option jm_I) := [some (.getfield 22, 3, 3, 3, 370), none, none, some (.aload_n 1, 1, 0, 0, 0), some (.iconst 1, 1, 0, 0, 0), some (.invokevirtual 60, 3, 21, 0, 871), none, none, some (.iadd, 1, 0, 0, 0), some (.iconst 0, 1, 0, 0, 0), some (.bipush 99, 2, 0, 0, 0), none, some (.invokestatic 64, 3, 129, 1, 872), none, none, some (.istore 7, 2, 0, 0, 0)]
def jm_M25_r10 : List (Option jm_I) := [none, some (.iinc 8 1, 3, 0, 0, 0), none, none, some (.goto (-142), 3, 0, 0, 0), none, none, some (.return_, 1, 0, 0, 0)]
/-- FallMarket$Outlook.lookAhead(LFallMarket$Text;LFallMarket$Ground;III)V -/
def jm_M25 : jm_M := (⟨"FallMarket$Outlook", "lookAhead", "(LFallMarket$Text;LFallMarket$Ground;III)V"⟩, prog_5_method_2_code, 9, none, [jm_M25_r0, jm_M25_r1, jm_M25_r2, jm_M25_r3, jm_M25_r4, jm_M25_r5, jm_M25_r6, jm_M25_r7, jm_M25_r8, jm_M25_r9, jm_M25_r10], 1, 5, 1, 3)
/-- FallMarket$Outlook.weighCatches(LFallMarket$Text;LFallMarket$Ground;I)V -/
def jm_M26 : jm_M := (⟨"FallMarket$Outlook", "weighCatches", "(LFallMarket$Text;LFallMarket$Ground;I)V"⟩, prog_5_method_3_code, 5, none, [[some (.iconst 0, 1, 0, 0, 0), some (.istore 4, 2, 0, 0, 0), none, some (.iload 4, 2, 0, 0, 0), none, some (.aload_n 1, 1, 0, 0, 0), some (.getfield 26, 3, 5, 0, 143), none, none, some (.if_icmp .ge 55, 3, 0, 0, 0), none, none, some (.aload_n 0, 1, 0, 0, 0), some (.getfield 18, 3, 3, 2, 368)],
  [some (.iload 4, 2, 0, 0, 0), none, some (.lconst 0, 1, 0, 0, 0), some (.lastore, 1, 0, 0, 0), some (.aload_n 2, 1, 0, 0, 0), some (.getfield 68, 3, 1, 4, 400), none, none, some (.iload 4, 2, 0, 0, 0), none, some (.iaload, 1, 0, 0, 0), some (.ifCond .ne 31, 3, 0, 0, 0), none, none, some (.aload_n 0, 1, 0, 0, 0), some (.aload_n 1, 1, 0, 0, 0)],
  [some (.aload_n 2, 1, 0, 0, 0), some (.iload 4, 2, 0, 0, 0), none, some (.iload_n 3, 1, 0, 0, 0), some (.aload_n 2, 1, 0, 0, 0), some (.getfield 71, 3, 1, 7, 410), none, none, some (.iload 4, 2, 0, 0, 0), none, some (.iaload, 1, 0, 0, 0), some (.invokevirtual 74, 3, 25, 0, 884), none, none, some (.aload_n 0, 1, 0, 0, 0), some (.getfield 18, 3, 3, 2, 368)],
  [none, none, some (.iload 4, 2, 0, 0, 0), none, some (.aload_n 0, 1, 0, 0, 0), some (.iload_n 3, 1, 0, 0, 0), some (.invokevirtual 78, 3, 27, 0, 885), none, none, some (.lastore, 1, 0, 0, 0), some (.iinc 4 1, 3, 0, 0, 0), none, none, some (.goto (-58), 3, 0, 0, 0)],
  [some (.return_, 1, 0, 0, 0)]], 1, 3, 1, 3)
/-- FallMarket$Outlook.meanWorth(I)J -/
def jm_M27 : jm_M := (⟨"FallMarket$Outlook", "meanWorth", "(I)J"⟩, prog_5_method_4_code, 7, some .long, [[some (.lconst 1, 1, 0, 0, 0), some (.lstore_n 2, 1, 0, 0, 0), some (.lconst 0, 1, 0, 0, 0), some (.lstore 4, 2, 0, 0, 0), none, some (.iconst 0, 1, 0, 0, 0), some (.istore 6, 2, 0, 0, 0), none, some (.iload 6, 2, 0, 0, 0), none, some (.iload_n 1, 1, 0, 0, 0), some (.if_icmp .ge 57, 3, 0, 0, 0), none, none, some (.iload 6, 2, 0, 0, 0)],
  [some (.iconst 4, 1, 0, 0, 0), some (.if_icmp .ge 51, 3, 0, 0, 0), none, none, some (.lload 4, 2, 0, 0, 0), none, some (.ldc2_w 82, 3, 100, 0, 889), none, none, some (.lmul, 1, 0, 0, 0), some (.lload_n 2, 1, 0, 0, 0), some (.aload_n 0, 1, 0, 0, 0), some (.getfield 9, 3, 3, 0, 365), none, none, some (.iload 6, 2, 0, 0, 0)],
  [none, some (.iaload, 1, 0, 0, 0), some (.i2l, 1, 0, 0, 0), some (.lmul, 1, 0, 0, 0), some (.aload_n 0, 1, 0, 0, 0), some (.getfield 15, 3, 3, 1, 367), none, none, some (.iload 6, 2, 0, 0, 0), none, some (.iaload, 1, 0, 0, 0), some (.i2l, 1, 0, 0, 0), some (.lmul, 1, 0, 0, 0), some (.ladd, 1, 0, 0, 0), some (.lstore 4, 2, 0, 0, 0)],
  [some (.lload_n 2, 1, 0, 0, 0), some (.bipush 100, 2, 0, 0, 0), none, some (.aload_n 0, 1, 0, 0, 0), some (.getfield 9, 3, 3, 0, 365), none, none, some (.iload 6, 2, 0, 0, 0), none, some (.iaload, 1, 0, 0, 0), some (.isub, 1, 0, 0, 0), some (.i2l, 1, 0, 0, 0), some (.lmul, 1, 0, 0, 0), some (.lstore_n 2, 1, 0, 0, 0), some (.iinc 6 1, 3, 0, 0, 0)],
  [none, some (.goto (-57), 3, 0, 0, 0), none, none, some (.lload 4, 2, 0, 0, 0), none, some (.lreturn, 1, 0, 0, 0)]], 1, 1, 1, 3)
/-- FallMarket$Outlook.fallsInHour(LFallMarket$Text;LFallMarket$Ground;III)J -/
def jm_M28 : jm_M := (⟨"FallMarket$Outlook", "fallsInHour", "(LFallMarket$Text;LFallMarket$Ground;III)J"⟩, prog_5_method_5_code, 9, some .long, [[some (.aload_n 0, 1, 0, 0, 0), some (.aload_n 1, 1, 0, 0, 0), some (.aload_n 2, 1, 0, 0, 0), some (.iload_n 3, 1, 0, 0, 0), some (.iload 4, 2, 0, 0, 0), none, some (.iload 5, 2, 0, 0, 0), none, some (.invokevirtual 74, 3, 25, 0, 884), none, none, some (.lconst 1, 1, 0, 0, 0), some (.lstore 6, 2, 0, 0, 0), none, some (.iconst 0, 1, 0, 0, 0), some (.istore 8, 2, 0, 0, 0)],
  [none, some (.iload 8, 2, 0, 0, 0), none, some (.iload 4, 2, 0, 0, 0), none, some (.iconst 1, 1, 0, 0, 0), some (.isub, 1, 0, 0, 0), some (.if_icmp .ge 31, 3, 0, 0, 0), none, none, some (.iload 8, 2, 0, 0, 0), none, some (.iconst 4, 1, 0, 0, 0), some (.if_icmp .ge 25, 3, 0, 0, 0)],
  [some (.lload 6, 2, 0, 0, 0), none, some (.bipush 100, 2, 0, 0, 0), none, some (.aload_n 0, 1, 0, 0, 0), some (.getfield 9, 3, 3, 0, 365), none, none, some (.iload 8, 2, 0, 0, 0), none, some (.iaload, 1, 0, 0, 0), some (.isub, 1, 0, 0, 0), some (.i2l, 1, 0, 0, 0), some (.lmul, 1, 0, 0, 0), some (.lstore 6, 2, 0, 0, 0)],
  [some (.iinc 8 1, 3, 0, 0, 0), none, none, some (.goto (-34), 3, 0, 0, 0), none, none, some (.iload 4, 2, 0, 0, 0), none, some (.iconst 1, 1, 0, 0, 0), some (.if_icmp .lt 25, 3, 0, 0, 0), none, none, some (.iload 4, 2, 0, 0, 0), none, some (.iconst 4, 1, 0, 0, 0), some (.if_icmp .gt 19, 3, 0, 0, 0)],
  [none, none, some (.lload 6, 2, 0, 0, 0), none, some (.aload_n 0, 1, 0, 0, 0), some (.getfield 9, 3, 3, 0, 365), none, none, some (.iload 4, 2, 0, 0, 0), none, some (.iconst 1, 1, 0, 0, 0), some (.isub, 1, 0, 0, 0), some (.iaload, 1, 0, 0, 0), some (.i2l, 1, 0, 0, 0), some (.lmul, 1, 0, 0, 0), some (.goto 4, 3, 0, 0, 0)],
  [none, none, some (.lconst 0, 1, 0, 0, 0), some (.lreturn, 1, 0, 0, 0)]], 1, 5, 1, 3)
/-- FallMarket$Outlook.inHundredths(JI)I -/
def jm_M29 : jm_M := (⟨"FallMarket$Outlook", "inHundredths", "(JI)I"⟩, prog_5_method_6_code, 6, some .int, [[some (.lload_n 0, 1, 0, 0, 0), some (.lstore_n 3, 1, 0, 0, 0), some (.iconst 1, 1, 0, 0, 0), some (.istore 5, 2, 0, 0, 0), none, some (.iload 5, 2, 0, 0, 0), none, some (.iload_n 2, 1, 0, 0, 0), some (.if_icmp .ge 15, 3, 0, 0, 0), none, none, some (.lload_n 3, 1, 0, 0, 0), some (.ldc2_w 82, 3, 100, 0, 889), none, none, some (.ldiv, 1, 0, 0, 0)],
  [some (.lstore_n 3, 1, 0, 0, 0), some (.iinc 5 1, 3, 0, 0, 0), none, none, some (.goto (-15), 3, 0, 0, 0), none, none, some (.lload_n 3, 1, 0, 0, 0), some (.l2i, 1, 0, 0, 0), some (.ireturn, 1, 0, 0, 0)]], 1, 2, 0, 3)
/-- FallMarket$Parser.<init>(LFallMarket$Text;)V -/
def jm_M30 : jm_M := (⟨"FallMarket$Parser", "<init>", "(LFallMarket$Text;)V"⟩, prog_6_method_1_code, 2, none, [[some (.aload_n 0, 1, 0, 0, 0), some (.invokespecial 3, 3, 0, 2, 229), none, none, some (.aload_n 0, 1, 0, 0, 0), some (.new 9, 3, 6, 0, 230), none, none, some (.dup, 1, 0, 0, 0), some (.invokespecial 11, 3, 54, 0, 232), none, none, some (.putfield 12, 3, 4, 13000, 303), none, none, some (.aload_n 0, 1, 0, 0, 0)],
  [some (.iconst 0, 1, 0, 0, 0), some (.putfield 18, 3, 4, 2, 305), none, none, some (.aload_n 0, 1, 0, 0, 0), some (.iconst 0, 1, 0, 0, 0), some (.putfield 22, 3, 4, 3, 306), none, none, some (.aload_n 0, 1, 0, 0, 0), some (.iconst (-1), 1, 0, 0, 0), some (.putfield 25, 3, 4, 4, 307), none, none, some (.aload_n 0, 1, 0, 0, 0), some (.iconst 0, 1, 0, 0, 0)],
  [some (.putfield 28, 3, 4, 5, 308), none, none, some (.aload_n 0, 1, 0, 0, 0), some (.iconst (-1), 1, 0, 0, 0), some (.putfield 31, 3, 4, 6, 309), none, none, some (.aload_n 0, 1, 0, 0, 0), some (.bipush 11, 2, 0, 0, 0), none, some (.newarray .long, 2, 0, 0, 0), none, some (.putfield 34, 3, 4, 13007, 310)],
  [some (.aload_n 0, 1, 0, 0, 0), some (.iconst 0, 1, 0, 0, 0), some (.putfield 38, 3, 4, 8, 311), none, none, some (.aload_n 0, 1, 0, 0, 0), some (.iconst 3, 1, 0, 0, 0), some (.newarray .int, 2, 0, 0, 0), none, some (.putfield 41, 3, 4, 13009, 312), none, none, some (.aload_n 0, 1, 0, 0, 0), some (.aload_n 1, 1, 0, 0, 0), some (.putfield 45, 3, 4, 3001, 304)],
  [none, some (.return_, 1, 0, 0, 0)]], 1, 1, 2, 4)
def jm_M31_r0 : List (Option jm_I) := [some (.aload_n 0, 1, 0, 0, 0), some (.getfield 12, 3, 4, 0, 303), none, none, some (.aload_n 1, 1, 0, 0, 0), some (.iload_n 2, 1, 0, 0, 0), some (.invokevirtual 49, 3, 58, 0, 606), none, none, some (.aload_n 0, 1, 0, 0, 0), some (.aload_n 3, 1, 0, 0, 0), some (.putfield 45, 3, 4, 3001, 304), none, none, some (.aload_n 0, 1, 0, 0, 0), some (.getfield 45, 3, 4, 1, 304)]
def jm_M31_r1 : List (Option jm_I) := [none, none, some (.invokevirtual 53, 3, 47, 0, 640), none, none, some (.aload_n 0, 1, 0, 0, 0), some (.iconst 0, 1, 0, 0, 0), some (.putfield 18, 3, 4, 2, 305), none, none, some (.aload_n 0, 1, 0, 0, 0), some (.iconst 0, 1, 0, 0, 0), some (.putfield 22, 3, 4, 3, 306), none, none, some (.aload_n 0, 1, 0, 0, 0)]
def jm_M31_r2 : List (Option jm_I) := [some (.iconst 0, 1, 0, 0, 0), some (.putfield 28, 3, 4, 5, 308), none, none, some (.aload_n 0, 1, 0, 0, 0), some (.iconst (-1), 1, 0, 0, 0), some (.putfield 31, 3, 4, 6, 309), none, none, some (.aload_n 0, 1, 0, 0, 0), some (.iconst 0, 1, 0, 0, 0), some (.putfield 38, 3, 4, 8, 311), none, none, some (.iconst 1, 1, 0, 0, 0), some (.istore 4, 2, 0, 0, 0)]
def jm_M31_r3 : List (Option jm_I) := [none, some (.iconst 0, 1, 0, 0, 0), some (.istore 5, 2, 0, 0, 0), none, some (.iload 5, 2, 0, 0, 0), none, some (.sipush 400, 3, 0, 0, 0), none, none, some (.if_icmp .gt 132, 3, 0, 0, 0), none, none, some (.iload 4, 2, 0, 0, 0), none, some (.ifCond .eq 127, 3, 0, 0, 0)]
def jm_M31_r4 : List (Option jm_I) := [none, some (.aload_n 0, 1, 0, 0, 0), some (.getfield 12, 3, 4, 0, 303), none, none, some (.aload_n 0, 1, 0, 0, 0), some (.getfield 18, 3, 4, 2, 305), none, none, some (.invokevirtual 58, 3, 55, 0, 641), none, none, some (.bipush 26, 2, 0, 0, 0), none, some (.if_icmp .eq 111, 3, 0, 0, 0)]
def jm_M31_r5 : List (Option jm_I) := [none, some (.aload_n 0, 1, 0, 0, 0), some (.getfield 12, 3, 4, 0, 303), none, none, some (.aload_n 0, 1, 0, 0, 0), some (.getfield 18, 3, 4, 2, 305), none, none, some (.invokevirtual 58, 3, 55, 0, 641), none, none, some (.istore 6, 2, 0, 0, 0), none, some (.iload 6, 2, 0, 0, 0)]
def jm_M31_r6 : List (Option jm_I) := [some (.ifCond .ne 12, 3, 0, 0, 0), none, none, some (.aload_n 0, 1, 0, 0, 0), some (.invokevirtual 62, 3, 33, 0, 645), none, none, some (.istore 4, 2, 0, 0, 0), none, some (.goto 78, 3, 0, 0, 0), none, none, some (.iload 6, 2, 0, 0, 0), none, some (.iconst 1, 1, 0, 0, 0), some (.if_icmp .ne 12, 3, 0, 0, 0)]
def jm_M31_r7 : List (Option jm_I) := [none, none, some (.aload_n 0, 1, 0, 0, 0), some (.invokevirtual 66, 3, 34, 0, 684), none, none, some (.istore 4, 2, 0, 0, 0), none, some (.goto 63, 3, 0, 0, 0), none, none, some (.iload 6, 2, 0, 0, 0), none, some (.iconst 2, 1, 0, 0, 0), some (.if_icmp .lt 25, 3, 0, 0, 0)]
def jm_M31_r8 : List (Option jm_I) := [none, some (.iload 6, 2, 0, 0, 0), none, some (.bipush 7, 2, 0, 0, 0), none, some (.if_icmp .gt 18, 3, 0, 0, 0), none, none, some (.aload_n 0, 1, 0, 0, 0), some (.iload 6, 2, 0, 0, 0), none, some (.iload 6, 2, 0, 0, 0), none, some (.iconst 2, 1, 0, 0, 0), some (.isub, 1, 0, 0, 0), some (.invokevirtual 69, 3, 36, 0, 692)]
def jm_M31_r9 : List (Option jm_I) := [none, none, some (.istore 4, 2, 0, 0, 0), none, some (.goto 35, 3, 0, 0, 0), none, none, some (.iload 6, 2, 0, 0, 0), none, some (.bipush 8, 2, 0, 0, 0), none, some (.if_icmp .lt 21, 3, 0, 0, 0), none, none, some (.iload 6, 2, 0, 0, 0)]
def jm_M31_r10 : List (Option jm_I) := [some (.bipush 10, 2, 0, 0, 0), none, some (.if_icmp .gt 14, 3, 0, 0, 0), none, none, some (.aload_n 0, 1, 0, 0, 0), some (.iload 6, 2, 0, 0, 0), none, some (.invokevirtual 73, 3, 35, 0, 720), none, none, some (.istore 4, 2, 0, 0, 0), none, some (.goto 10, 3, 0, 0, 0)]
def jm_M31_r11 : List (Option jm_I) := [some (.aload_n 0, 1, 0, 0, 0), some (.iconst 1, 1, 0, 0, 0), some (.invokevirtual 77, 3, 44, 0, 649), none, none, some (.istore 4, 2, 0, 0, 0), none, some (.iinc 5 1, 3, 0, 0, 0), none, none, some (.goto (-134), 3, 0, 0, 0), none, none, some (.aload_n 0, 1, 0, 0, 0), some (.iload 4, 2, 0, 0, 0)]
def jm_M31_r12 : List (Option jm_I) := [some (.ifCond .eq 10, 3, 0, 0, 0), none, none, some (.aload_n 0, 1, 0, 0, 0), some (.getfield 31, 3, 4, 6, 309), none, none, some (.goto 14, 3, 0, 0, 0), none, none, some (.aload_n 0, 1, 0, 0, 0), some (.getfield 12, 3, 4, 0, 303), none, none, some (.aload_n 0, 1, 0, 0, 0), some (.getfield 18, 3, 4, 2, 305)]
def jm_M31_r13 : List (Option jm_I) := [none, none, some (.invokevirtual 80, 3, 56, 0, 669), none, none, some (.putfield 25, 3, 4, 4, 307), none, none, some (.iload 4, 2, 0, 0, 0), none, some (.ifCond .eq 10, 3, 0, 0, 0), none, none, some (.aload_n 0, 1, 0, 0, 0), some (.getfield 28, 3, 4, 5, 308)]
def jm_M31_r14 : List (Option jm_I) := [none, some (.goto 7, 3, 0, 0, 0), none, none, some (.aload_n 0, 1, 0, 0, 0), some (.getfield 22, 3, 4, 3, 306), none, none, some (.ireturn, 1, 0, 0, 0)]
/-- FallMarket$Parser.parse([BILFallMarket$Text;)I -/
def jm_M31 : jm_M := (⟨"FallMarket$Parser", "parse", "([BILFallMarket$Text;)I"⟩, prog_6_method_2_code, 7, some .int, [jm_M31_r0, jm_M31_r1, jm_M31_r2, jm_M31_r3, jm_M31_r4, jm_M31_r5, jm_M31_r6, jm_M31_r7, jm_M31_r8, jm_M31_r9, jm_M31_r10, jm_M31_r11, jm_M31_r12, jm_M31_r13, jm_M31_r14], 1, 3, 1, 4)
/-- FallMarket$Parser.faultPlace()I -/
def jm_M32 : jm_M := (⟨"FallMarket$Parser", "faultPlace", "()I"⟩, prog_6_method_3_code, 1, some .int, [[some (.aload_n 0, 1, 0, 0, 0), some (.getfield 25, 3, 4, 4, 307), none, none, some (.ireturn, 1, 0, 0, 0)]], 1, 0, 1, 4)
/-- FallMarket$Parser.parseFruit()Z -/
def jm_M33 : jm_M := (⟨"FallMarket$Parser", "parseFruit", "()Z"⟩, prog_6_method_4_code, 2, some .boolean, [[some (.aload_n 0, 1, 0, 0, 0), some (.getfield 45, 3, 4, 1, 304), none, none, some (.getfield 83, 3, 5, 0, 145), none, none, some (.bipush 7, 2, 0, 0, 0), none, some (.if_icmp .lt 9, 3, 0, 0, 0), none, none, some (.aload_n 0, 1, 0, 0, 0), some (.iconst 2, 1, 0, 0, 0), some (.invokevirtual 77, 3, 44, 0, 649)],
  [none, some (.ireturn, 1, 0, 0, 0), some (.aload_n 0, 1, 0, 0, 0), some (.iconst 0, 1, 0, 0, 0), some (.invokevirtual 86, 3, 43, 0, 653), none, none, some (.ifCond .eq 56, 3, 0, 0, 0), none, none, some (.aload_n 0, 1, 0, 0, 0), some (.invokevirtual 89, 3, 41, 0, 657), none, none, some (.ifCond .eq 49, 3, 0, 0, 0)],
  [none, some (.aload_n 0, 1, 0, 0, 0), some (.iconst 0, 1, 0, 0, 0), some (.iconst 0, 1, 0, 0, 0), some (.bipush 9, 2, 0, 0, 0), none, some (.invokevirtual 92, 3, 42, 0, 673), none, none, some (.ifCond .eq 38, 3, 0, 0, 0), none, none, some (.aload_n 0, 1, 0, 0, 0), some (.iconst 1, 1, 0, 0, 0), some (.iconst 1, 1, 0, 0, 0), some (.bipush 9, 2, 0, 0, 0)],
  [none, some (.invokevirtual 92, 3, 42, 0, 673), none, none, some (.ifCond .eq 27, 3, 0, 0, 0), none, none, some (.aload_n 0, 1, 0, 0, 0), some (.iconst 2, 1, 0, 0, 0), some (.iconst 0, 1, 0, 0, 0), some (.bipush 99, 2, 0, 0, 0), none, some (.invokevirtual 92, 3, 42, 0, 673), none, none, some (.ifCond .eq 16, 3, 0, 0, 0)],
  [none, none, some (.aload_n 0, 1, 0, 0, 0), some (.bipush 59, 2, 0, 0, 0), none, some (.invokevirtual 86, 3, 43, 0, 653), none, none, some (.ifCond .eq 7, 3, 0, 0, 0), none, none, some (.iconst 1, 1, 0, 0, 0), some (.goto 4, 3, 0, 0, 0), none, none, some (.iconst 0, 1, 0, 0, 0)],
  [some (.istore_n 1, 1, 0, 0, 0), some (.iload_n 1, 1, 0, 0, 0), some (.ifCond .eq 14, 3, 0, 0, 0), none, none, some (.aload_n 0, 1, 0, 0, 0), some (.getfield 45, 3, 4, 1, 304), none, none, some (.aload_n 0, 1, 0, 0, 0), some (.getfield 41, 3, 4, 9, 312), none, none, some (.invokevirtual 96, 3, 52, 0, 680)],
  [some (.iload_n 1, 1, 0, 0, 0), some (.ireturn, 1, 0, 0, 0)]], 1, 0, 1, 4)
/-- FallMarket$Parser.parseBuyer()Z -/
def jm_M34 : jm_M := (⟨"FallMarket$Parser", "parseBuyer", "()Z"⟩, prog_6_method_5_code, 2, some .boolean, [[some (.aload_n 0, 1, 0, 0, 0), some (.getfield 45, 3, 4, 1, 304), none, none, some (.getfield 100, 3, 5, 5, 165), none, none, some (.iconst 4, 1, 0, 0, 0), some (.if_icmp .lt 9, 3, 0, 0, 0), none, none, some (.aload_n 0, 1, 0, 0, 0), some (.iconst 2, 1, 0, 0, 0), some (.invokevirtual 77, 3, 44, 0, 649)],
  [some (.ireturn, 1, 0, 0, 0), some (.aload_n 0, 1, 0, 0, 0), some (.iconst 1, 1, 0, 0, 0), some (.invokevirtual 86, 3, 43, 0, 653), none, none, some (.ifCond .eq 56, 3, 0, 0, 0), none, none, some (.aload_n 0, 1, 0, 0, 0), some (.invokevirtual 89, 3, 41, 0, 657), none, none, some (.ifCond .eq 49, 3, 0, 0, 0)],
  [some (.aload_n 0, 1, 0, 0, 0), some (.iconst 0, 1, 0, 0, 0), some (.iconst 0, 1, 0, 0, 0), some (.bipush 9, 2, 0, 0, 0), none, some (.invokevirtual 92, 3, 42, 0, 673), none, none, some (.ifCond .eq 38, 3, 0, 0, 0), none, none, some (.aload_n 0, 1, 0, 0, 0), some (.iconst 1, 1, 0, 0, 0), some (.iconst 0, 1, 0, 0, 0), some (.iconst 3, 1, 0, 0, 0), some (.invokevirtual 92, 3, 42, 0, 673)],
  [none, none, some (.ifCond .eq 28, 3, 0, 0, 0), none, none, some (.aload_n 0, 1, 0, 0, 0), some (.iconst 2, 1, 0, 0, 0), some (.iconst 0, 1, 0, 0, 0), some (.sipush 999, 3, 0, 0, 0), none, none, some (.invokevirtual 92, 3, 42, 0, 673), none, none, some (.ifCond .eq 16, 3, 0, 0, 0)],
  [none, some (.aload_n 0, 1, 0, 0, 0), some (.bipush 59, 2, 0, 0, 0), none, some (.invokevirtual 86, 3, 43, 0, 653), none, none, some (.ifCond .eq 7, 3, 0, 0, 0), none, none, some (.iconst 1, 1, 0, 0, 0), some (.goto 4, 3, 0, 0, 0), none, none, some (.iconst 0, 1, 0, 0, 0), some (.istore_n 1, 1, 0, 0, 0)],
  [some (.iload_n 1, 1, 0, 0, 0), some (.ifCond .eq 14, 3, 0, 0, 0), none, none, some (.aload_n 0, 1, 0, 0, 0), some (.getfield 45, 3, 4, 1, 304), none, none, some (.aload_n 0, 1, 0, 0, 0), some (.getfield 41, 3, 4, 9, 312), none, none, some (.invokevirtual 103, 3, 53, 0, 688), none, none, some (.iload_n 1, 1, 0, 0, 0)],
  [some (.ireturn, 1, 0, 0, 0)]], 1, 0, 1, 4)
/-- FallMarket$Parser.parseSetting(I)Z -/
def jm_M35 : jm_M := (⟨"FallMarket$Parser", "parseSetting", "(I)Z"⟩, prog_6_method_6_code, 3, some .boolean, [[some (.iload_n 1, 1, 0, 0, 0), some (.bipush 8, 2, 0, 0, 0), none, some (.if_icmp .ne 8, 3, 0, 0, 0), none, none, some (.bipush 99, 2, 0, 0, 0), none, some (.goto 17, 3, 0, 0, 0), none, none, some (.iload_n 1, 1, 0, 0, 0), some (.bipush 9, 2, 0, 0, 0), none, some (.if_icmp .ne 8, 3, 0, 0, 0)],
  [none, some (.bipush 99, 2, 0, 0, 0), none, some (.goto 6, 3, 0, 0, 0), none, none, some (.sipush 9999, 3, 0, 0, 0), none, none, some (.istore_n 2, 1, 0, 0, 0), some (.aload_n 0, 1, 0, 0, 0), some (.iload_n 1, 1, 0, 0, 0), some (.invokevirtual 86, 3, 43, 0, 653), none, none, some (.ifCond .eq 22, 3, 0, 0, 0)],
  [none, none, some (.aload_n 0, 1, 0, 0, 0), some (.iconst 0, 1, 0, 0, 0), some (.iconst 0, 1, 0, 0, 0), some (.iload_n 2, 1, 0, 0, 0), some (.invokevirtual 92, 3, 42, 0, 673), none, none, some (.ifCond .eq 12, 3, 0, 0, 0), none, none, some (.aload_n 0, 1, 0, 0, 0), some (.bipush 59, 2, 0, 0, 0), none, some (.invokevirtual 86, 3, 43, 0, 653)],
  [none, none, some (.ifCond .ne 5, 3, 0, 0, 0), none, none, some (.iconst 0, 1, 0, 0, 0), some (.ireturn, 1, 0, 0, 0), some (.iload_n 1, 1, 0, 0, 0), some (.bipush 8, 2, 0, 0, 0), none, some (.if_icmp .ne 19, 3, 0, 0, 0), none, none, some (.aload_n 0, 1, 0, 0, 0), some (.getfield 45, 3, 4, 1, 304)],
  [none, some (.aload_n 0, 1, 0, 0, 0), some (.getfield 41, 3, 4, 9, 312), none, none, some (.iconst 0, 1, 0, 0, 0), some (.iaload, 1, 0, 0, 0), some (.putfield 106, 3, 5, 9, 176), none, none, some (.goto 38, 3, 0, 0, 0), none, none, some (.iload_n 1, 1, 0, 0, 0), some (.bipush 9, 2, 0, 0, 0)],
  [some (.if_icmp .ne 19, 3, 0, 0, 0), none, none, some (.aload_n 0, 1, 0, 0, 0), some (.getfield 45, 3, 4, 1, 304), none, none, some (.aload_n 0, 1, 0, 0, 0), some (.getfield 41, 3, 4, 9, 312), none, none, some (.iconst 0, 1, 0, 0, 0), some (.iaload, 1, 0, 0, 0), some (.putfield 109, 3, 5, 10, 180)],
  [some (.goto 16, 3, 0, 0, 0), none, none, some (.aload_n 0, 1, 0, 0, 0), some (.getfield 45, 3, 4, 1, 304), none, none, some (.aload_n 0, 1, 0, 0, 0), some (.getfield 41, 3, 4, 9, 312), none, none, some (.iconst 0, 1, 0, 0, 0), some (.iaload, 1, 0, 0, 0), some (.putfield 112, 3, 5, 11, 182)],
  [some (.iconst 1, 1, 0, 0, 0), some (.ireturn, 1, 0, 0, 0)]], 1, 1, 1, 4)
/-- FallMarket$Parser.parseLaw(II)Z -/
def jm_M36 : jm_M := (⟨"FallMarket$Parser", "parseLaw", "(II)Z"⟩, prog_6_method_7_code, 5, some .boolean, [[some (.aload_n 0, 1, 0, 0, 0), some (.iload_n 1, 1, 0, 0, 0), some (.invokevirtual 86, 3, 43, 0, 653), none, none, some (.ifCond .eq 12, 3, 0, 0, 0), none, none, some (.aload_n 0, 1, 0, 0, 0), some (.bipush 61, 2, 0, 0, 0), none, some (.invokevirtual 86, 3, 43, 0, 653), none, none, some (.ifCond .ne 5, 3, 0, 0, 0)],
  [none, some (.iconst 0, 1, 0, 0, 0), some (.ireturn, 1, 0, 0, 0), some (.aload_n 0, 1, 0, 0, 0), some (.getfield 45, 3, 4, 1, 304), none, none, some (.getfield 115, 3, 5, 14, 190), none, none, some (.istore_n 3, 1, 0, 0, 0), some (.iconst 0, 1, 0, 0, 0), some (.istore 4, 2, 0, 0, 0), none, some (.iload 4, 2, 0, 0, 0)],
  [some (.iconst 4, 1, 0, 0, 0), some (.if_icmp .gt 47, 3, 0, 0, 0), none, none, some (.aload_n 0, 1, 0, 0, 0), some (.getfield 12, 3, 4, 0, 303), none, none, some (.aload_n 0, 1, 0, 0, 0), some (.getfield 18, 3, 4, 2, 305), none, none, some (.invokevirtual 58, 3, 55, 0, 641), none, none, some (.bipush 11, 2, 0, 0, 0)],
  [none, some (.if_icmp .ne 31, 3, 0, 0, 0), none, none, some (.iload 4, 2, 0, 0, 0), none, some (.iconst 4, 1, 0, 0, 0), some (.if_icmp .lt 9, 3, 0, 0, 0), none, none, some (.aload_n 0, 1, 0, 0, 0), some (.iconst 2, 1, 0, 0, 0), some (.invokevirtual 77, 3, 44, 0, 649), none, none, some (.ireturn, 1, 0, 0, 0)],
  [some (.aload_n 0, 1, 0, 0, 0), some (.iload_n 2, 1, 0, 0, 0), some (.invokevirtual 118, 3, 37, 0, 696), none, none, some (.ifCond .ne 5, 3, 0, 0, 0), none, none, some (.iconst 0, 1, 0, 0, 0), some (.ireturn, 1, 0, 0, 0), some (.iinc 4 1, 3, 0, 0, 0), none, none, some (.goto (-47), 3, 0, 0, 0)],
  [some (.aload_n 0, 1, 0, 0, 0), some (.iload_n 2, 1, 0, 0, 0), some (.iconst 0, 1, 0, 0, 0), some (.invokevirtual 121, 3, 38, 0, 700), none, none, some (.ifCond .eq 12, 3, 0, 0, 0), none, none, some (.aload_n 0, 1, 0, 0, 0), some (.bipush 59, 2, 0, 0, 0), none, some (.invokevirtual 86, 3, 43, 0, 653), none, none, some (.ifCond .ne 5, 3, 0, 0, 0)],
  [none, none, some (.iconst 0, 1, 0, 0, 0), some (.ireturn, 1, 0, 0, 0), some (.aload_n 0, 1, 0, 0, 0), some (.getfield 45, 3, 4, 1, 304), none, none, some (.bipush (-14), 2, 0, 0, 0), none, some (.invokevirtual 124, 3, 50, 0, 712), none, none, some (.aload_n 0, 1, 0, 0, 0), some (.getfield 45, 3, 4, 1, 304)],
  [none, some (.getfield 128, 3, 5, 12, 186), none, none, some (.iload_n 2, 1, 0, 0, 0), some (.iload_n 3, 1, 0, 0, 0), some (.iastore, 1, 0, 0, 0), some (.iconst 1, 1, 0, 0, 0), some (.ireturn, 1, 0, 0, 0)]], 1, 2, 1, 4)
/-- FallMarket$Parser.parseIf(I)Z -/
def jm_M37 : jm_M := (⟨"FallMarket$Parser", "parseIf", "(I)Z"⟩, prog_6_method_8_code, 4, some .boolean, [[some (.aload_n 0, 1, 0, 0, 0), some (.bipush 11, 2, 0, 0, 0), none, some (.invokevirtual 86, 3, 43, 0, 653), none, none, some (.ifCond .eq 43, 3, 0, 0, 0), none, none, some (.aload_n 0, 1, 0, 0, 0), some (.iload_n 1, 1, 0, 0, 0), some (.iconst 0, 1, 0, 0, 0), some (.invokevirtual 121, 3, 38, 0, 700), none, none, some (.ifCond .eq 34, 3, 0, 0, 0)],
  [none, none, some (.aload_n 0, 1, 0, 0, 0), some (.bipush 60, 2, 0, 0, 0), none, some (.invokevirtual 86, 3, 43, 0, 653), none, none, some (.ifCond .eq 25, 3, 0, 0, 0), none, none, some (.aload_n 0, 1, 0, 0, 0), some (.iload_n 1, 1, 0, 0, 0), some (.iconst 0, 1, 0, 0, 0), some (.invokevirtual 121, 3, 38, 0, 700)],
  [none, some (.ifCond .eq 16, 3, 0, 0, 0), none, none, some (.aload_n 0, 1, 0, 0, 0), some (.bipush 12, 2, 0, 0, 0), none, some (.invokevirtual 86, 3, 43, 0, 653), none, none, some (.ifCond .eq 7, 3, 0, 0, 0), none, none, some (.iconst 1, 1, 0, 0, 0), some (.goto 4, 3, 0, 0, 0)],
  [none, some (.iconst 0, 1, 0, 0, 0), some (.istore_n 2, 1, 0, 0, 0), some (.iload_n 2, 1, 0, 0, 0), some (.ifCond .ne 5, 3, 0, 0, 0), none, none, some (.iconst 0, 1, 0, 0, 0), some (.ireturn, 1, 0, 0, 0), some (.aload_n 0, 1, 0, 0, 0), some (.getfield 45, 3, 4, 1, 304), none, none, some (.bipush (-15), 2, 0, 0, 0), none, some (.invokevirtual 124, 3, 50, 0, 712)],
  [none, none, some (.aload_n 0, 1, 0, 0, 0), some (.getfield 45, 3, 4, 1, 304), none, none, some (.getfield 115, 3, 5, 14, 190), none, none, some (.istore_n 3, 1, 0, 0, 0), some (.aload_n 0, 1, 0, 0, 0), some (.getfield 45, 3, 4, 1, 304), none, none, some (.iconst 0, 1, 0, 0, 0), some (.invokevirtual 124, 3, 50, 0, 712)],
  [none, none, some (.aload_n 0, 1, 0, 0, 0), some (.iload_n 1, 1, 0, 0, 0), some (.iconst 0, 1, 0, 0, 0), some (.invokevirtual 121, 3, 38, 0, 700), none, none, some (.ifCond .eq 12, 3, 0, 0, 0), none, none, some (.aload_n 0, 1, 0, 0, 0), some (.bipush 13, 2, 0, 0, 0), none, some (.invokevirtual 86, 3, 43, 0, 653)],
  [none, some (.ifCond .ne 5, 3, 0, 0, 0), none, none, some (.iconst 0, 1, 0, 0, 0), some (.ireturn, 1, 0, 0, 0), some (.aload_n 0, 1, 0, 0, 0), some (.getfield 45, 3, 4, 1, 304), none, none, some (.bipush (-14), 2, 0, 0, 0), none, some (.invokevirtual 124, 3, 50, 0, 712), none, none, some (.aload_n 0, 1, 0, 0, 0)],
  [some (.getfield 45, 3, 4, 1, 304), none, none, some (.iload_n 3, 1, 0, 0, 0), some (.aload_n 0, 1, 0, 0, 0), some (.getfield 45, 3, 4, 1, 304), none, none, some (.getfield 115, 3, 5, 14, 190), none, none, some (.invokevirtual 131, 3, 51, 0, 716), none, none, some (.iconst 1, 1, 0, 0, 0), some (.ireturn, 1, 0, 0, 0)]], 1, 1, 1, 4)
/-- FallMarket$Parser.parseSum(II)Z -/
def jm_M38 : jm_M := (⟨"FallMarket$Parser", "parseSum", "(II)Z"⟩, prog_6_method_9_code, 6, some .boolean, [[some (.aload_n 0, 1, 0, 0, 0), some (.iload_n 1, 1, 0, 0, 0), some (.iload_n 2, 1, 0, 0, 0), some (.invokevirtual 135, 3, 39, 0, 704), none, none, some (.istore_n 3, 1, 0, 0, 0), some (.aload_n 0, 1, 0, 0, 0), some (.getfield 12, 3, 4, 0, 303), none, none, some (.aload_n 0, 1, 0, 0, 0), some (.getfield 18, 3, 4, 2, 305), none, none, some (.invokevirtual 58, 3, 55, 0, 641)],
  [none, none, some (.istore 4, 2, 0, 0, 0), none, some (.iconst 0, 1, 0, 0, 0), some (.istore 5, 2, 0, 0, 0), none, some (.iload 5, 2, 0, 0, 0), none, some (.sipush 400, 3, 0, 0, 0), none, none, some (.if_icmp .gt 85, 3, 0, 0, 0), none, none, some (.iload_n 3, 1, 0, 0, 0)],
  [some (.ifCond .eq 81, 3, 0, 0, 0), none, none, some (.iload 4, 2, 0, 0, 0), none, some (.bipush 43, 2, 0, 0, 0), none, some (.if_icmp .eq 10, 3, 0, 0, 0), none, none, some (.iload 4, 2, 0, 0, 0), none, some (.bipush 45, 2, 0, 0, 0), none, some (.if_icmp .ne 67, 3, 0, 0, 0)],
  [none, some (.aload_n 0, 1, 0, 0, 0), some (.iload 4, 2, 0, 0, 0), none, some (.invokevirtual 86, 3, 43, 0, 653), none, none, some (.ifCond .eq 16, 3, 0, 0, 0), none, none, some (.aload_n 0, 1, 0, 0, 0), some (.iload_n 1, 1, 0, 0, 0), some (.iload_n 2, 1, 0, 0, 0), some (.invokevirtual 135, 3, 39, 0, 704)],
  [some (.ifCond .eq 7, 3, 0, 0, 0), none, none, some (.iconst 1, 1, 0, 0, 0), some (.goto 4, 3, 0, 0, 0), none, none, some (.iconst 0, 1, 0, 0, 0), some (.istore_n 3, 1, 0, 0, 0), some (.aload_n 0, 1, 0, 0, 0), some (.getfield 45, 3, 4, 1, 304), none, none, some (.iload 4, 2, 0, 0, 0), none, some (.bipush 43, 2, 0, 0, 0)],
  [none, some (.if_icmp .ne 8, 3, 0, 0, 0), none, none, some (.bipush (-10), 2, 0, 0, 0), none, some (.goto 5, 3, 0, 0, 0), none, none, some (.bipush (-11), 2, 0, 0, 0), none, some (.invokevirtual 124, 3, 50, 0, 712), none, none, some (.aload_n 0, 1, 0, 0, 0), some (.getfield 12, 3, 4, 0, 303)],
  [none, none, some (.aload_n 0, 1, 0, 0, 0), some (.getfield 18, 3, 4, 2, 305), none, none, some (.invokevirtual 58, 3, 55, 0, 641), none, none, some (.istore 4, 2, 0, 0, 0), none, some (.iinc 5 1, 3, 0, 0, 0), none, none, some (.goto (-87), 3, 0, 0, 0)],
  [none, some (.iload_n 3, 1, 0, 0, 0), some (.ireturn, 1, 0, 0, 0)]], 1, 2, 1, 4)
/-- FallMarket$Parser.parseProduct(II)Z -/
def jm_M39 : jm_M := (⟨"FallMarket$Parser", "parseProduct", "(II)Z"⟩, prog_6_method_10_code, 6, some .boolean, [[some (.aload_n 0, 1, 0, 0, 0), some (.iload_n 1, 1, 0, 0, 0), some (.iload_n 2, 1, 0, 0, 0), some (.invokevirtual 138, 3, 40, 0, 708), none, none, some (.istore_n 3, 1, 0, 0, 0), some (.aload_n 0, 1, 0, 0, 0), some (.getfield 12, 3, 4, 0, 303), none, none, some (.aload_n 0, 1, 0, 0, 0), some (.getfield 18, 3, 4, 2, 305), none, none, some (.invokevirtual 58, 3, 55, 0, 641)],
  [none, none, some (.istore 4, 2, 0, 0, 0), none, some (.iconst 0, 1, 0, 0, 0), some (.istore 5, 2, 0, 0, 0), none, some (.iload 5, 2, 0, 0, 0), none, some (.sipush 400, 3, 0, 0, 0), none, none, some (.if_icmp .gt 85, 3, 0, 0, 0), none, none, some (.iload_n 3, 1, 0, 0, 0)],
  [some (.ifCond .eq 81, 3, 0, 0, 0), none, none, some (.iload 4, 2, 0, 0, 0), none, some (.bipush 42, 2, 0, 0, 0), none, some (.if_icmp .eq 10, 3, 0, 0, 0), none, none, some (.iload 4, 2, 0, 0, 0), none, some (.bipush 47, 2, 0, 0, 0), none, some (.if_icmp .ne 67, 3, 0, 0, 0)],
  [none, some (.aload_n 0, 1, 0, 0, 0), some (.iload 4, 2, 0, 0, 0), none, some (.invokevirtual 86, 3, 43, 0, 653), none, none, some (.ifCond .eq 16, 3, 0, 0, 0), none, none, some (.aload_n 0, 1, 0, 0, 0), some (.iload_n 1, 1, 0, 0, 0), some (.iload_n 2, 1, 0, 0, 0), some (.invokevirtual 138, 3, 40, 0, 708)],
  [some (.ifCond .eq 7, 3, 0, 0, 0), none, none, some (.iconst 1, 1, 0, 0, 0), some (.goto 4, 3, 0, 0, 0), none, none, some (.iconst 0, 1, 0, 0, 0), some (.istore_n 3, 1, 0, 0, 0), some (.aload_n 0, 1, 0, 0, 0), some (.getfield 45, 3, 4, 1, 304), none, none, some (.iload 4, 2, 0, 0, 0), none, some (.bipush 42, 2, 0, 0, 0)],
  [none, some (.if_icmp .ne 8, 3, 0, 0, 0), none, none, some (.bipush (-12), 2, 0, 0, 0), none, some (.goto 5, 3, 0, 0, 0), none, none, some (.bipush (-13), 2, 0, 0, 0), none, some (.invokevirtual 124, 3, 50, 0, 712), none, none, some (.aload_n 0, 1, 0, 0, 0), some (.getfield 12, 3, 4, 0, 303)],
  [none, none, some (.aload_n 0, 1, 0, 0, 0), some (.getfield 18, 3, 4, 2, 305), none, none, some (.invokevirtual 58, 3, 55, 0, 641), none, none, some (.istore 4, 2, 0, 0, 0), none, some (.iinc 5 1, 3, 0, 0, 0), none, none, some (.goto (-87), 3, 0, 0, 0)],
  [none, some (.iload_n 3, 1, 0, 0, 0), some (.ireturn, 1, 0, 0, 0)]], 1, 2, 1, 4)
/-- FallMarket$Parser.parseUnit(II)Z -/
def jm_M40 : jm_M := (⟨"FallMarket$Parser", "parseUnit", "(II)Z"⟩, prog_6_method_11_code, 5, some .boolean, [[some (.aload_n 0, 1, 0, 0, 0), some (.getfield 12, 3, 4, 0, 303), none, none, some (.aload_n 0, 1, 0, 0, 0), some (.getfield 18, 3, 4, 2, 305), none, none, some (.invokevirtual 58, 3, 55, 0, 641), none, none, some (.istore_n 3, 1, 0, 0, 0), some (.iload_n 3, 1, 0, 0, 0), some (.bipush 24, 2, 0, 0, 0), none, some (.if_icmp .ne 28, 3, 0, 0, 0)],
  [none, none, some (.aload_n 0, 1, 0, 0, 0), some (.getfield 45, 3, 4, 1, 304), none, none, some (.aload_n 0, 1, 0, 0, 0), some (.getfield 12, 3, 4, 0, 303), none, none, some (.aload_n 0, 1, 0, 0, 0), some (.getfield 18, 3, 4, 2, 305), none, none, some (.invokevirtual 141, 3, 57, 0, 661)],
  [none, some (.l2i, 1, 0, 0, 0), some (.invokevirtual 124, 3, 50, 0, 712), none, none, some (.aload_n 0, 1, 0, 0, 0), some (.iload_n 3, 1, 0, 0, 0), some (.invokevirtual 86, 3, 43, 0, 653), none, none, some (.ireturn, 1, 0, 0, 0), some (.iload_n 3, 1, 0, 0, 0), some (.bipush 14, 2, 0, 0, 0), none, some (.if_icmp .lt 51, 3, 0, 0, 0)],
  [none, some (.iload_n 3, 1, 0, 0, 0), some (.bipush 22, 2, 0, 0, 0), none, some (.if_icmp .gt 45, 3, 0, 0, 0), none, none, some (.iload_n 3, 1, 0, 0, 0), some (.bipush 14, 2, 0, 0, 0), none, some (.isub, 1, 0, 0, 0), some (.istore 4, 2, 0, 0, 0), none, some (.aload_n 0, 1, 0, 0, 0), some (.getfield 45, 3, 4, 1, 304)],
  [none, some (.getstatic 145, 3, 2, 0, 713), none, none, some (.iload_n 1, 1, 0, 0, 0), some (.iaload, 1, 0, 0, 0), some (.iload 4, 2, 0, 0, 0), none, some (.ishr, 1, 0, 0, 0), some (.iconst 1, 1, 0, 0, 0), some (.iand, 1, 0, 0, 0), some (.iconst 1, 1, 0, 0, 0), some (.if_icmp .ne 11, 3, 0, 0, 0), none, none, some (.iload 4, 2, 0, 0, 0)],
  [none, some (.invokestatic 148, 3, 49, 0, 715), none, none, some (.goto 4, 3, 0, 0, 0), none, none, some (.iconst 0, 1, 0, 0, 0), some (.invokevirtual 124, 3, 50, 0, 712), none, none, some (.aload_n 0, 1, 0, 0, 0), some (.iload_n 3, 1, 0, 0, 0), some (.invokevirtual 86, 3, 43, 0, 653)],
  [some (.ireturn, 1, 0, 0, 0), some (.iload_n 3, 1, 0, 0, 0), some (.bipush 40, 2, 0, 0, 0), none, some (.if_icmp .eq 9, 3, 0, 0, 0), none, none, some (.aload_n 0, 1, 0, 0, 0), some (.iconst 1, 1, 0, 0, 0), some (.invokevirtual 77, 3, 44, 0, 649), none, none, some (.ireturn, 1, 0, 0, 0), some (.iload_n 2, 1, 0, 0, 0), some (.bipush 6, 2, 0, 0, 0)],
  [some (.if_icmp .lt 9, 3, 0, 0, 0), none, none, some (.aload_n 0, 1, 0, 0, 0), some (.iconst 2, 1, 0, 0, 0), some (.invokevirtual 77, 3, 44, 0, 649), none, none, some (.ireturn, 1, 0, 0, 0), some (.aload_n 0, 1, 0, 0, 0), some (.iload_n 3, 1, 0, 0, 0), some (.invokevirtual 86, 3, 43, 0, 653), none, none, some (.ifCond .eq 27, 3, 0, 0, 0)],
  [none, some (.aload_n 0, 1, 0, 0, 0), some (.iload_n 1, 1, 0, 0, 0), some (.iload_n 2, 1, 0, 0, 0), some (.iconst 1, 1, 0, 0, 0), some (.iadd, 1, 0, 0, 0), some (.invokevirtual 121, 3, 38, 0, 700), none, none, some (.ifCond .eq 16, 3, 0, 0, 0), none, none, some (.aload_n 0, 1, 0, 0, 0), some (.bipush 41, 2, 0, 0, 0), none, some (.invokevirtual 86, 3, 43, 0, 653)],
  [none, none, some (.ifCond .eq 7, 3, 0, 0, 0), none, none, some (.iconst 1, 1, 0, 0, 0), some (.goto 4, 3, 0, 0, 0), none, none, some (.iconst 0, 1, 0, 0, 0), some (.ireturn, 1, 0, 0, 0)]], 1, 2, 1, 4)
/-- FallMarket$Parser.takeName()Z -/
def jm_M41 : jm_M := (⟨"FallMarket$Parser", "takeName", "()Z"⟩, prog_6_method_12_code, 4, some .boolean, [[some (.aload_n 0, 1, 0, 0, 0), some (.bipush 23, 2, 0, 0, 0), none, some (.invokevirtual 86, 3, 43, 0, 653), none, none, some (.ifCond .ne 5, 3, 0, 0, 0), none, none, some (.iconst 0, 1, 0, 0, 0), some (.ireturn, 1, 0, 0, 0), some (.aload_n 0, 1, 0, 0, 0), some (.getfield 12, 3, 4, 0, 303), none, none, some (.aload_n 0, 1, 0, 0, 0)],
  [some (.getfield 18, 3, 4, 2, 305), none, none, some (.iconst 1, 1, 0, 0, 0), some (.isub, 1, 0, 0, 0), some (.invokevirtual 141, 3, 57, 0, 661), none, none, some (.lstore_n 1, 1, 0, 0, 0), some (.iconst 0, 1, 0, 0, 0), some (.istore_n 3, 1, 0, 0, 0), some (.iload_n 3, 1, 0, 0, 0), some (.aload_n 0, 1, 0, 0, 0), some (.getfield 38, 3, 4, 8, 311)],
  [some (.if_icmp .ge 27, 3, 0, 0, 0), none, none, some (.aload_n 0, 1, 0, 0, 0), some (.getfield 34, 3, 4, 7, 310), none, none, some (.iload_n 3, 1, 0, 0, 0), some (.laload, 1, 0, 0, 0), some (.lload_n 1, 1, 0, 0, 0), some (.lcmp, 1, 0, 0, 0), some (.ifCond .ne 10, 3, 0, 0, 0), none, none, some (.aload_n 0, 1, 0, 0, 0), some (.iconst 3, 1, 0, 0, 0)],
  [some (.invokevirtual 151, 3, 45, 0, 665), none, none, some (.iconst 1, 1, 0, 0, 0), some (.ireturn, 1, 0, 0, 0), some (.iinc 3 1, 3, 0, 0, 0), none, none, some (.goto (-29), 3, 0, 0, 0), none, none, some (.aload_n 0, 1, 0, 0, 0), some (.getfield 38, 3, 4, 8, 311), none, none, some (.aload_n 0, 1, 0, 0, 0)],
  [some (.getfield 34, 3, 4, 7, 310), none, none, some (.arraylength, 1, 0, 0, 0), some (.if_icmp .ge 23, 3, 0, 0, 0), none, none, some (.aload_n 0, 1, 0, 0, 0), some (.getfield 34, 3, 4, 7, 310), none, none, some (.aload_n 0, 1, 0, 0, 0), some (.getfield 38, 3, 4, 8, 311), none, none, some (.lload_n 1, 1, 0, 0, 0)],
  [some (.lastore, 1, 0, 0, 0), some (.aload_n 0, 1, 0, 0, 0), some (.dup, 1, 0, 0, 0), some (.getfield 38, 3, 4, 8, 311), none, none, some (.iconst 1, 1, 0, 0, 0), some (.iadd, 1, 0, 0, 0), some (.putfield 38, 3, 4, 8, 311), none, none, some (.iconst 1, 1, 0, 0, 0), some (.ireturn, 1, 0, 0, 0)]], 1, 0, 1, 4)
/-- FallMarket$Parser.takeNumber(III)Z -/
def jm_M42 : jm_M := (⟨"FallMarket$Parser", "takeNumber", "(III)Z"⟩, prog_6_method_13_code, 5, some .boolean, [[some (.aload_n 0, 1, 0, 0, 0), some (.bipush 24, 2, 0, 0, 0), none, some (.invokevirtual 86, 3, 43, 0, 653), none, none, some (.ifCond .ne 5, 3, 0, 0, 0), none, none, some (.iconst 0, 1, 0, 0, 0), some (.ireturn, 1, 0, 0, 0), some (.aload_n 0, 1, 0, 0, 0), some (.getfield 12, 3, 4, 0, 303), none, none, some (.aload_n 0, 1, 0, 0, 0)],
  [some (.getfield 18, 3, 4, 2, 305), none, none, some (.iconst 1, 1, 0, 0, 0), some (.isub, 1, 0, 0, 0), some (.invokevirtual 141, 3, 57, 0, 661), none, none, some (.l2i, 1, 0, 0, 0), some (.istore 4, 2, 0, 0, 0), none, some (.iload 4, 2, 0, 0, 0), none, some (.iload_n 2, 1, 0, 0, 0), some (.iload_n 3, 1, 0, 0, 0), some (.invokestatic 154, 3, 128, 1, 677)],
  [none, none, some (.ifCond .ne 8, 3, 0, 0, 0), none, none, some (.aload_n 0, 1, 0, 0, 0), some (.iconst 5, 1, 0, 0, 0), some (.invokevirtual 151, 3, 45, 0, 665), none, none, some (.iload_n 1, 1, 0, 0, 0), some (.iconst 0, 1, 0, 0, 0), some (.aload_n 0, 1, 0, 0, 0), some (.getfield 41, 3, 4, 9, 312)],
  [some (.arraylength, 1, 0, 0, 0), some (.iconst 1, 1, 0, 0, 0), some (.isub, 1, 0, 0, 0), some (.invokestatic 154, 3, 128, 1, 677), none, none, some (.ifCond .eq 11, 3, 0, 0, 0), none, none, some (.aload_n 0, 1, 0, 0, 0), some (.getfield 41, 3, 4, 9, 312), none, none, some (.iload_n 1, 1, 0, 0, 0), some (.iload 4, 2, 0, 0, 0)],
  [some (.iastore, 1, 0, 0, 0), some (.iconst 1, 1, 0, 0, 0), some (.ireturn, 1, 0, 0, 0)]], 1, 3, 1, 4)
/-- FallMarket$Parser.take(I)Z -/
def jm_M43 : jm_M := (⟨"FallMarket$Parser", "take", "(I)Z"⟩, prog_6_method_14_code, 2, some .boolean, [[some (.aload_n 0, 1, 0, 0, 0), some (.getfield 12, 3, 4, 0, 303), none, none, some (.aload_n 0, 1, 0, 0, 0), some (.getfield 18, 3, 4, 2, 305), none, none, some (.invokevirtual 58, 3, 55, 0, 641), none, none, some (.iload_n 1, 1, 0, 0, 0), some (.if_icmp .eq 9, 3, 0, 0, 0), none, none, some (.aload_n 0, 1, 0, 0, 0)],
  [some (.iconst 1, 1, 0, 0, 0), some (.invokevirtual 77, 3, 44, 0, 649), none, none, some (.ireturn, 1, 0, 0, 0), some (.aload_n 0, 1, 0, 0, 0), some (.getfield 18, 3, 4, 2, 305), none, none, some (.sipush 400, 3, 0, 0, 0), none, none, some (.if_icmp .lt 9, 3, 0, 0, 0), none, none, some (.aload_n 0, 1, 0, 0, 0)],
  [some (.iconst 2, 1, 0, 0, 0), some (.invokevirtual 77, 3, 44, 0, 649), none, none, some (.ireturn, 1, 0, 0, 0), some (.aload_n 0, 1, 0, 0, 0), some (.dup, 1, 0, 0, 0), some (.getfield 18, 3, 4, 2, 305), none, none, some (.iconst 1, 1, 0, 0, 0), some (.iadd, 1, 0, 0, 0), some (.putfield 18, 3, 4, 2, 305), none, none, some (.iconst 1, 1, 0, 0, 0)],
  [some (.ireturn, 1, 0, 0, 0)]], 1, 1, 1, 4)
/-- FallMarket$Parser.refuse(I)Z -/
def jm_M44 : jm_M := (⟨"FallMarket$Parser", "refuse", "(I)Z"⟩, prog_6_method_15_code, 2, some .boolean, [[some (.aload_n 0, 1, 0, 0, 0), some (.iload_n 1, 1, 0, 0, 0), some (.putfield 22, 3, 4, 3, 306), none, none, some (.iconst 0, 1, 0, 0, 0), some (.ireturn, 1, 0, 0, 0)]], 1, 1, 1, 4)
/-- FallMarket$Parser.markLater(I)V -/
def jm_M45 : jm_M := (⟨"FallMarket$Parser", "markLater", "(I)V"⟩, prog_6_method_16_code, 2, none, [[some (.aload_n 0, 1, 0, 0, 0), some (.getfield 28, 3, 4, 5, 308), none, none, some (.ifCond .ne 25, 3, 0, 0, 0), none, none, some (.aload_n 0, 1, 0, 0, 0), some (.iload_n 1, 1, 0, 0, 0), some (.putfield 28, 3, 4, 5, 308), none, none, some (.aload_n 0, 1, 0, 0, 0), some (.aload_n 0, 1, 0, 0, 0), some (.getfield 12, 3, 4, 0, 303)],
  [none, some (.aload_n 0, 1, 0, 0, 0), some (.getfield 18, 3, 4, 2, 305), none, none, some (.iconst 1, 1, 0, 0, 0), some (.isub, 1, 0, 0, 0), some (.invokevirtual 80, 3, 56, 0, 669), none, none, some (.putfield 31, 3, 4, 6, 309), none, none, some (.return_, 1, 0, 0, 0)]], 1, 1, 1, 4)
/-- FallMarket$Text.<init>()V -/
def jm_M46 : jm_M := (⟨"FallMarket$Text", "<init>", "()V"⟩, prog_7_method_1_code, 1, none, [[some (.aload_n 0, 1, 0, 0, 0), some (.invokespecial 3, 3, 0, 2, 126), none, none, some (.aload_n 0, 1, 0, 0, 0), some (.iconst 0, 1, 0, 0, 0), some (.putfield 9, 3, 5, 0, 142), none, none, some (.aload_n 0, 1, 0, 0, 0), some (.bipush 7, 2, 0, 0, 0), none, some (.newarray .int, 2, 0, 0, 0), none, some (.putfield 15, 3, 5, 13001, 149)],
  [none, some (.aload_n 0, 1, 0, 0, 0), some (.bipush 7, 2, 0, 0, 0), none, some (.newarray .int, 2, 0, 0, 0), none, some (.putfield 19, 3, 5, 13002, 154), none, none, some (.aload_n 0, 1, 0, 0, 0), some (.bipush 7, 2, 0, 0, 0), none, some (.newarray .int, 2, 0, 0, 0), none, some (.putfield 22, 3, 5, 13003, 158)],
  [none, some (.aload_n 0, 1, 0, 0, 0), some (.bipush 7, 2, 0, 0, 0), none, some (.newarray .int, 2, 0, 0, 0), none, some (.putfield 25, 3, 5, 13004, 161), none, none, some (.aload_n 0, 1, 0, 0, 0), some (.iconst 0, 1, 0, 0, 0), some (.putfield 28, 3, 5, 5, 164), none, none, some (.aload_n 0, 1, 0, 0, 0), some (.iconst 4, 1, 0, 0, 0)],
  [some (.newarray .int, 2, 0, 0, 0), none, some (.putfield 31, 3, 5, 13006, 168), none, none, some (.aload_n 0, 1, 0, 0, 0), some (.iconst 4, 1, 0, 0, 0), some (.newarray .int, 2, 0, 0, 0), none, some (.putfield 34, 3, 5, 13007, 170), none, none, some (.aload_n 0, 1, 0, 0, 0), some (.iconst 4, 1, 0, 0, 0), some (.newarray .int, 2, 0, 0, 0)],
  [some (.putfield 37, 3, 5, 13008, 173), none, none, some (.aload_n 0, 1, 0, 0, 0), some (.iconst 0, 1, 0, 0, 0), some (.putfield 40, 3, 5, 9, 175), none, none, some (.aload_n 0, 1, 0, 0, 0), some (.iconst 0, 1, 0, 0, 0), some (.putfield 43, 3, 5, 10, 178), none, none, some (.aload_n 0, 1, 0, 0, 0), some (.iconst 0, 1, 0, 0, 0), some (.putfield 46, 3, 5, 11, 181)],
  [none, none, some (.aload_n 0, 1, 0, 0, 0), some (.bipush 6, 2, 0, 0, 0), none, some (.newarray .int, 2, 0, 0, 0), none, some (.putfield 49, 3, 5, 13012, 184), none, none, some (.aload_n 0, 1, 0, 0, 0), some (.sipush 512, 3, 0, 0, 0), none, none, some (.newarray .int, 2, 0, 0, 0)],
  [some (.putfield 52, 3, 5, 13013, 187), none, none, some (.aload_n 0, 1, 0, 0, 0), some (.iconst 0, 1, 0, 0, 0), some (.putfield 55, 3, 5, 14, 189), none, none, some (.aload_n 0, 1, 0, 0, 0), some (.invokevirtual 58, 3, 47, 0, 127), none, none, some (.return_, 1, 0, 0, 0)]], 1, 0, 2, 5)
/-- FallMarket$Text.clear()V -/
def jm_M47 : jm_M := (⟨"FallMarket$Text", "clear", "()V"⟩, prog_7_method_2_code, 1, none, [[some (.aload_n 0, 1, 0, 0, 0), some (.iconst 0, 1, 0, 0, 0), some (.putfield 9, 3, 5, 0, 142), none, none, some (.aload_n 0, 1, 0, 0, 0), some (.iconst 0, 1, 0, 0, 0), some (.putfield 28, 3, 5, 5, 164), none, none, some (.aload_n 0, 1, 0, 0, 0), some (.bipush 10, 2, 0, 0, 0), none, some (.putfield 40, 3, 5, 9, 175)],
  [some (.aload_n 0, 1, 0, 0, 0), some (.bipush 6, 2, 0, 0, 0), none, some (.putfield 43, 3, 5, 10, 178), none, none, some (.aload_n 0, 1, 0, 0, 0), some (.iconst 0, 1, 0, 0, 0), some (.putfield 46, 3, 5, 11, 181), none, none, some (.aload_n 0, 1, 0, 0, 0), some (.iconst 0, 1, 0, 0, 0), some (.putfield 55, 3, 5, 14, 189)],
  [some (.aload_n 0, 1, 0, 0, 0), some (.iconst 0, 1, 0, 0, 0), some (.iconst 0, 1, 0, 0, 0), some (.invokevirtual 61, 3, 48, 0, 131), none, none, some (.aload_n 0, 1, 0, 0, 0), some (.iconst 1, 1, 0, 0, 0), some (.iconst 1, 1, 0, 0, 0), some (.invokevirtual 61, 3, 48, 0, 131), none, none, some (.aload_n 0, 1, 0, 0, 0), some (.iconst 2, 1, 0, 0, 0), some (.iconst 0, 1, 0, 0, 0), some (.invokestatic 65, 3, 49, 0, 139)],
  [none, none, some (.invokevirtual 61, 3, 48, 0, 131), none, none, some (.aload_n 0, 1, 0, 0, 0), some (.iconst 3, 1, 0, 0, 0), some (.iconst 0, 1, 0, 0, 0), some (.invokestatic 65, 3, 49, 0, 139), none, none, some (.invokevirtual 61, 3, 48, 0, 131), none, none, some (.aload_n 0, 1, 0, 0, 0), some (.iconst 4, 1, 0, 0, 0)],
  [some (.iconst 0, 1, 0, 0, 0), some (.invokevirtual 61, 3, 48, 0, 131), none, none, some (.aload_n 0, 1, 0, 0, 0), some (.iconst 5, 1, 0, 0, 0), some (.iconst 0, 1, 0, 0, 0), some (.invokevirtual 61, 3, 48, 0, 131), none, none, some (.return_, 1, 0, 0, 0)]], 1, 0, 1, 5)
/-- FallMarket$Text.addPlainLaw(II)V -/
def jm_M48 : jm_M := (⟨"FallMarket$Text", "addPlainLaw", "(II)V"⟩, prog_7_method_3_code, 3, none, [[some (.aload_n 0, 1, 0, 0, 0), some (.getfield 49, 3, 5, 12, 184), none, none, some (.iload_n 1, 1, 0, 0, 0), some (.aload_n 0, 1, 0, 0, 0), some (.getfield 55, 3, 5, 14, 189), none, none, some (.iastore, 1, 0, 0, 0), some (.aload_n 0, 1, 0, 0, 0), some (.iload_n 2, 1, 0, 0, 0), some (.invokevirtual 69, 3, 50, 0, 135), none, none, some (.aload_n 0, 1, 0, 0, 0)],
  [some (.bipush (-14), 2, 0, 0, 0), none, some (.invokevirtual 69, 3, 50, 0, 135), none, none, some (.return_, 1, 0, 0, 0)]], 1, 2, 1, 5)
/-- FallMarket$Text.varCell(I)I -/
def jm_M49 : jm_M := (⟨"FallMarket$Text", "varCell", "(I)I"⟩, prog_7_method_4_code, 1, some .int, [[some (.iconst (-1), 1, 0, 0, 0), some (.iload_n 0, 1, 0, 0, 0), some (.isub, 1, 0, 0, 0), some (.ireturn, 1, 0, 0, 0)]], 1, 1, 0, 5)
/-- FallMarket$Text.emit(I)V -/
def jm_M50 : jm_M := (⟨"FallMarket$Text", "emit", "(I)V"⟩, prog_7_method_5_code, 2, none, [[some (.aload_n 0, 1, 0, 0, 0), some (.getfield 55, 3, 5, 14, 189), none, none, some (.sipush 512, 3, 0, 0, 0), none, none, some (.if_icmp .ge 23, 3, 0, 0, 0), none, none, some (.aload_n 0, 1, 0, 0, 0), some (.getfield 52, 3, 5, 13, 187), none, none, some (.aload_n 0, 1, 0, 0, 0), some (.getfield 55, 3, 5, 14, 189)],
  [none, none, some (.iload_n 1, 1, 0, 0, 0), some (.iastore, 1, 0, 0, 0), some (.aload_n 0, 1, 0, 0, 0), some (.dup, 1, 0, 0, 0), some (.getfield 55, 3, 5, 14, 189), none, none, some (.iconst 1, 1, 0, 0, 0), some (.iadd, 1, 0, 0, 0), some (.putfield 55, 3, 5, 14, 189), none, none, some (.return_, 1, 0, 0, 0)]], 1, 1, 1, 5)
/-- FallMarket$Text.patch(II)V -/
def jm_M51 : jm_M := (⟨"FallMarket$Text", "patch", "(II)V"⟩, prog_7_method_6_code, 3, none, [[some (.iload_n 1, 1, 0, 0, 0), some (.ifCond .lt 17, 3, 0, 0, 0), none, none, some (.iload_n 1, 1, 0, 0, 0), some (.sipush 512, 3, 0, 0, 0), none, none, some (.if_icmp .ge 10, 3, 0, 0, 0), none, none, some (.aload_n 0, 1, 0, 0, 0), some (.getfield 52, 3, 5, 13, 187), none, none, some (.iload_n 1, 1, 0, 0, 0)],
  [some (.iload_n 2, 1, 0, 0, 0), some (.iastore, 1, 0, 0, 0), some (.return_, 1, 0, 0, 0)]], 1, 2, 1, 5)
/-- FallMarket$Text.addFruit([I)V -/
def jm_M52 : jm_M := (⟨"FallMarket$Text", "addFruit", "([I)V"⟩, prog_7_method_7_code, 2, none, [[some (.aload_n 0, 1, 0, 0, 0), some (.getfield 9, 3, 5, 0, 142), none, none, some (.bipush 7, 2, 0, 0, 0), none, some (.if_icmp .ge 55, 3, 0, 0, 0), none, none, some (.aload_n 1, 1, 0, 0, 0), some (.arraylength, 1, 0, 0, 0), some (.iconst 3, 1, 0, 0, 0), some (.if_icmp .lt 49, 3, 0, 0, 0), none, none, some (.aload_n 0, 1, 0, 0, 0)],
  [some (.getfield 15, 3, 5, 1, 149), none, none, some (.aload_n 0, 1, 0, 0, 0), some (.getfield 9, 3, 5, 0, 142), none, none, some (.aload_n 1, 1, 0, 0, 0), some (.iconst 0, 1, 0, 0, 0), some (.iaload, 1, 0, 0, 0), some (.iastore, 1, 0, 0, 0), some (.aload_n 0, 1, 0, 0, 0), some (.getfield 19, 3, 5, 2, 154), none, none, some (.aload_n 0, 1, 0, 0, 0)],
  [some (.getfield 9, 3, 5, 0, 142), none, none, some (.aload_n 1, 1, 0, 0, 0), some (.iconst 1, 1, 0, 0, 0), some (.iaload, 1, 0, 0, 0), some (.iastore, 1, 0, 0, 0), some (.aload_n 0, 1, 0, 0, 0), some (.getfield 22, 3, 5, 3, 158), none, none, some (.aload_n 0, 1, 0, 0, 0), some (.getfield 9, 3, 5, 0, 142), none, none, some (.aload_n 1, 1, 0, 0, 0)],
  [some (.iconst 2, 1, 0, 0, 0), some (.iaload, 1, 0, 0, 0), some (.iastore, 1, 0, 0, 0), some (.aload_n 0, 1, 0, 0, 0), some (.dup, 1, 0, 0, 0), some (.getfield 9, 3, 5, 0, 142), none, none, some (.iconst 1, 1, 0, 0, 0), some (.iadd, 1, 0, 0, 0), some (.putfield 9, 3, 5, 0, 142), none, none, some (.return_, 1, 0, 0, 0)]], 1, 1, 1, 5)
/-- FallMarket$Text.addBuyer([I)V -/
def jm_M53 : jm_M := (⟨"FallMarket$Text", "addBuyer", "([I)V"⟩, prog_7_method_8_code, 2, none, [[some (.aload_n 0, 1, 0, 0, 0), some (.getfield 28, 3, 5, 5, 164), none, none, some (.iconst 4, 1, 0, 0, 0), some (.if_icmp .ge 55, 3, 0, 0, 0), none, none, some (.aload_n 1, 1, 0, 0, 0), some (.arraylength, 1, 0, 0, 0), some (.iconst 3, 1, 0, 0, 0), some (.if_icmp .lt 49, 3, 0, 0, 0), none, none, some (.aload_n 0, 1, 0, 0, 0), some (.getfield 31, 3, 5, 6, 168)],
  [none, none, some (.aload_n 0, 1, 0, 0, 0), some (.getfield 28, 3, 5, 5, 164), none, none, some (.aload_n 1, 1, 0, 0, 0), some (.iconst 0, 1, 0, 0, 0), some (.iaload, 1, 0, 0, 0), some (.iastore, 1, 0, 0, 0), some (.aload_n 0, 1, 0, 0, 0), some (.getfield 34, 3, 5, 7, 170), none, none, some (.aload_n 0, 1, 0, 0, 0), some (.getfield 28, 3, 5, 5, 164)],
  [none, none, some (.aload_n 1, 1, 0, 0, 0), some (.iconst 1, 1, 0, 0, 0), some (.iaload, 1, 0, 0, 0), some (.iastore, 1, 0, 0, 0), some (.aload_n 0, 1, 0, 0, 0), some (.getfield 37, 3, 5, 8, 173), none, none, some (.aload_n 0, 1, 0, 0, 0), some (.getfield 28, 3, 5, 5, 164), none, none, some (.aload_n 1, 1, 0, 0, 0), some (.iconst 2, 1, 0, 0, 0)],
  [some (.iaload, 1, 0, 0, 0), some (.iastore, 1, 0, 0, 0), some (.aload_n 0, 1, 0, 0, 0), some (.dup, 1, 0, 0, 0), some (.getfield 28, 3, 5, 5, 164), none, none, some (.iconst 1, 1, 0, 0, 0), some (.iadd, 1, 0, 0, 0), some (.putfield 28, 3, 5, 5, 164), none, none, some (.return_, 1, 0, 0, 0)]], 1, 1, 1, 5)
/-- FallMarket$Tokens.<init>()V -/
def jm_M54 : jm_M := (⟨"FallMarket$Tokens", "<init>", "()V"⟩, prog_8_method_1_code, 6, none, [[some (.aload_n 0, 1, 0, 0, 0), some (.invokespecial 3, 3, 0, 2, 235), none, none, some (.aload_n 0, 1, 0, 0, 0), some (.sipush 401, 3, 0, 0, 0), none, none, some (.newarray .int, 2, 0, 0, 0), none, some (.putfield 9, 3, 6, 13000, 289), none, none, some (.aload_n 0, 1, 0, 0, 0), some (.sipush 401, 3, 0, 0, 0)],
  [none, some (.newarray .int, 2, 0, 0, 0), none, some (.putfield 15, 3, 6, 13001, 290), none, none, some (.aload_n 0, 1, 0, 0, 0), some (.sipush 401, 3, 0, 0, 0), none, none, some (.newarray .long, 2, 0, 0, 0), none, some (.putfield 18, 3, 6, 13002, 291), none, none, some (.aload_n 0, 1, 0, 0, 0)],
  [some (.bipush 23, 2, 0, 0, 0), none, some (.newarray .long, 2, 0, 0, 0), none, some (.putfield 22, 3, 6, 13003, 292), none, none, some (.iconst 0, 1, 0, 0, 0), some (.istore_n 1, 1, 0, 0, 0), some (.lconst 0, 1, 0, 0, 0), some (.lstore_n 2, 1, 0, 0, 0), some (.iconst 0, 1, 0, 0, 0), some (.istore 4, 2, 0, 0, 0), none, some (.iload 4, 2, 0, 0, 0)],
  [some (.ldc 25, 2, 0, 1, 0), none, some (.invokevirtual 27, 3, 244, 0, 237), none, none, some (.if_icmp .ge 53, 3, 0, 0, 0), none, none, some (.iload_n 1, 1, 0, 0, 0), some (.bipush 23, 2, 0, 0, 0), none, some (.if_icmp .ge 47, 3, 0, 0, 0), none, none, some (.ldc 25, 2, 0, 1, 0)],
  [some (.iload 4, 2, 0, 0, 0), none, some (.invokevirtual 33, 3, 245, 0, 247), none, none, some (.istore 5, 2, 0, 0, 0), none, some (.iload 5, 2, 0, 0, 0), none, some (.bipush 32, 2, 0, 0, 0), none, some (.if_icmp .ne 18, 3, 0, 0, 0), none, none, some (.aload_n 0, 1, 0, 0, 0), some (.getfield 22, 3, 6, 3, 292)],
  [none, none, some (.iload_n 1, 1, 0, 0, 0), some (.lload_n 2, 1, 0, 0, 0), some (.lastore, 1, 0, 0, 0), some (.iinc 1 1, 3, 0, 0, 0), none, none, some (.lconst 0, 1, 0, 0, 0), some (.lstore_n 2, 1, 0, 0, 0), some (.goto 10, 3, 0, 0, 0), none, none, some (.lload_n 2, 1, 0, 0, 0), some (.iload 5, 2, 0, 0, 0)],
  [some (.invokestatic 37, 3, 63, 0, 285), none, none, some (.lstore_n 2, 1, 0, 0, 0), some (.iinc 4 1, 3, 0, 0, 0), none, none, some (.goto (-57), 3, 0, 0, 0), none, none, some (.return_, 1, 0, 0, 0)]], 1, 0, 2, 6)
/-- FallMarket$Tokens.kindAt(I)I -/
def jm_M55 : jm_M := (⟨"FallMarket$Tokens", "kindAt", "(I)I"⟩, prog_8_method_2_code, 2, some .int, [[some (.iload_n 1, 1, 0, 0, 0), some (.ifCond .lt 19, 3, 0, 0, 0), none, none, some (.iload_n 1, 1, 0, 0, 0), some (.sipush 400, 3, 0, 0, 0), none, none, some (.if_icmp .gt 12, 3, 0, 0, 0), none, none, some (.aload_n 0, 1, 0, 0, 0), some (.getfield 9, 3, 6, 0, 289), none, none, some (.iload_n 1, 1, 0, 0, 0)],
  [some (.iaload, 1, 0, 0, 0), some (.goto 5, 3, 0, 0, 0), none, none, some (.bipush 26, 2, 0, 0, 0), none, some (.ireturn, 1, 0, 0, 0)]], 1, 1, 1, 6)
/-- FallMarket$Tokens.startAt(I)I -/
def jm_M56 : jm_M := (⟨"FallMarket$Tokens", "startAt", "(I)I"⟩, prog_8_method_3_code, 2, some .int, [[some (.iload_n 1, 1, 0, 0, 0), some (.ifCond .lt 19, 3, 0, 0, 0), none, none, some (.iload_n 1, 1, 0, 0, 0), some (.sipush 400, 3, 0, 0, 0), none, none, some (.if_icmp .gt 12, 3, 0, 0, 0), none, none, some (.aload_n 0, 1, 0, 0, 0), some (.getfield 15, 3, 6, 1, 290), none, none, some (.iload_n 1, 1, 0, 0, 0)],
  [some (.iaload, 1, 0, 0, 0), some (.goto 4, 3, 0, 0, 0), none, none, some (.iconst 0, 1, 0, 0, 0), some (.ireturn, 1, 0, 0, 0)]], 1, 1, 1, 6)
/-- FallMarket$Tokens.valueAt(I)J -/
def jm_M57 : jm_M := (⟨"FallMarket$Tokens", "valueAt", "(I)J"⟩, prog_8_method_4_code, 2, some .long, [[some (.iload_n 1, 1, 0, 0, 0), some (.ifCond .lt 19, 3, 0, 0, 0), none, none, some (.iload_n 1, 1, 0, 0, 0), some (.sipush 400, 3, 0, 0, 0), none, none, some (.if_icmp .gt 12, 3, 0, 0, 0), none, none, some (.aload_n 0, 1, 0, 0, 0), some (.getfield 18, 3, 6, 2, 291), none, none, some (.iload_n 1, 1, 0, 0, 0)],
  [some (.laload, 1, 0, 0, 0), some (.goto 4, 3, 0, 0, 0), none, none, some (.lconst 0, 1, 0, 0, 0), some (.lreturn, 1, 0, 0, 0)]], 1, 1, 1, 6)
/-- FallMarket$Tokens.cut([BI)V -/
def jm_M58 : jm_M := (⟨"FallMarket$Tokens", "cut", "([BI)V"⟩, prog_8_method_5_code, 7, none, [[some (.iload_n 2, 1, 0, 0, 0), some (.aload_n 1, 1, 0, 0, 0), some (.arraylength, 1, 0, 0, 0), some (.invokestatic 41, 3, 243, 0, 610), none, none, some (.istore_n 3, 1, 0, 0, 0), some (.iconst 0, 1, 0, 0, 0), some (.istore 4, 2, 0, 0, 0), none, some (.iconst 0, 1, 0, 0, 0), some (.istore 5, 2, 0, 0, 0), none, some (.iconst 0, 1, 0, 0, 0), some (.istore 6, 2, 0, 0, 0)],
  [some (.iload 6, 2, 0, 0, 0), none, some (.sipush 400, 3, 0, 0, 0), none, none, some (.if_icmp .gt 88, 3, 0, 0, 0), none, none, some (.iload 5, 2, 0, 0, 0), none, some (.ifCond .ne 83, 3, 0, 0, 0), none, none, some (.iload 4, 2, 0, 0, 0), none, some (.iload_n 3, 1, 0, 0, 0)],
  [some (.if_icmp .ge 19, 3, 0, 0, 0), none, none, some (.aload_n 1, 1, 0, 0, 0), some (.iload 4, 2, 0, 0, 0), none, some (.baload, 1, 0, 0, 0), some (.invokestatic 47, 3, 64, 0, 611), none, none, some (.ifCond .eq 9, 3, 0, 0, 0), none, none, some (.iinc 4 1, 3, 0, 0, 0)],
  [some (.goto (-19), 3, 0, 0, 0), none, none, some (.aload_n 0, 1, 0, 0, 0), some (.getfield 15, 3, 6, 1, 290), none, none, some (.iload 6, 2, 0, 0, 0), none, some (.iload 4, 2, 0, 0, 0), none, some (.iastore, 1, 0, 0, 0), some (.aload_n 0, 1, 0, 0, 0), some (.iload 6, 2, 0, 0, 0), none, some (.aload_n 1, 1, 0, 0, 0)],
  [some (.iload 4, 2, 0, 0, 0), none, some (.iload_n 3, 1, 0, 0, 0), some (.invokevirtual 51, 3, 59, 0, 614), none, none, some (.istore 4, 2, 0, 0, 0), none, some (.aload_n 0, 1, 0, 0, 0), some (.getfield 9, 3, 6, 0, 289), none, none, some (.iload 6, 2, 0, 0, 0), none, some (.iaload, 1, 0, 0, 0), some (.bipush 26, 2, 0, 0, 0)],
  [none, some (.if_icmp .eq 15, 3, 0, 0, 0), none, none, some (.aload_n 0, 1, 0, 0, 0), some (.getfield 9, 3, 6, 0, 289), none, none, some (.iload 6, 2, 0, 0, 0), none, some (.iaload, 1, 0, 0, 0), some (.bipush 25, 2, 0, 0, 0), none, some (.if_icmp .ne 7, 3, 0, 0, 0)],
  [some (.iconst 1, 1, 0, 0, 0), some (.goto 4, 3, 0, 0, 0), none, none, some (.iconst 0, 1, 0, 0, 0), some (.istore 5, 2, 0, 0, 0), none, some (.iinc 6 1, 3, 0, 0, 0), none, none, some (.goto (-90), 3, 0, 0, 0), none, none, some (.return_, 1, 0, 0, 0)]], 1, 2, 1, 6)
/-- FallMarket$Tokens.cutOne(I[BII)I -/
def jm_M59 : jm_M := (⟨"FallMarket$Tokens", "cutOne", "(I[BII)I"⟩, prog_8_method_6_code, 5, some .int, [[some (.iload_n 3, 1, 0, 0, 0), some (.iload 4, 2, 0, 0, 0), none, some (.if_icmp .lt 13, 3, 0, 0, 0), none, none, some (.aload_n 0, 1, 0, 0, 0), some (.getfield 9, 3, 6, 0, 289), none, none, some (.iload_n 1, 1, 0, 0, 0), some (.bipush 26, 2, 0, 0, 0), none, some (.iastore, 1, 0, 0, 0), some (.iload_n 3, 1, 0, 0, 0), some (.ireturn, 1, 0, 0, 0)],
  [some (.aload_n 2, 1, 0, 0, 0), some (.iload_n 3, 1, 0, 0, 0), some (.baload, 1, 0, 0, 0), some (.invokestatic 55, 3, 65, 0, 618), none, none, some (.ifCond .eq 13, 3, 0, 0, 0), none, none, some (.aload_n 0, 1, 0, 0, 0), some (.iload_n 1, 1, 0, 0, 0), some (.aload_n 2, 1, 0, 0, 0), some (.iload_n 3, 1, 0, 0, 0), some (.iload 4, 2, 0, 0, 0), none, some (.invokevirtual 58, 3, 60, 0, 621)],
  [none, none, some (.ireturn, 1, 0, 0, 0), some (.aload_n 2, 1, 0, 0, 0), some (.iload_n 3, 1, 0, 0, 0), some (.baload, 1, 0, 0, 0), some (.invokestatic 61, 3, 66, 0, 629), none, none, some (.ifCond .eq 13, 3, 0, 0, 0), none, none, some (.aload_n 0, 1, 0, 0, 0), some (.iload_n 1, 1, 0, 0, 0), some (.aload_n 2, 1, 0, 0, 0), some (.iload_n 3, 1, 0, 0, 0)],
  [some (.iload 4, 2, 0, 0, 0), none, some (.invokevirtual 64, 3, 61, 0, 632), none, none, some (.ireturn, 1, 0, 0, 0), some (.aload_n 0, 1, 0, 0, 0), some (.getfield 9, 3, 6, 0, 289), none, none, some (.iload_n 1, 1, 0, 0, 0), some (.aload_n 2, 1, 0, 0, 0), some (.iload_n 3, 1, 0, 0, 0), some (.baload, 1, 0, 0, 0), some (.invokestatic 67, 3, 67, 0, 637)],
  [none, some (.ifCond .eq 9, 3, 0, 0, 0), none, none, some (.aload_n 2, 1, 0, 0, 0), some (.iload_n 3, 1, 0, 0, 0), some (.baload, 1, 0, 0, 0), some (.goto 5, 3, 0, 0, 0), none, none, some (.bipush 25, 2, 0, 0, 0), none, some (.iastore, 1, 0, 0, 0), some (.iload_n 3, 1, 0, 0, 0), some (.iconst 1, 1, 0, 0, 0), some (.iadd, 1, 0, 0, 0)],
  [some (.ireturn, 1, 0, 0, 0)]], 1, 4, 1, 6)
/-- FallMarket$Tokens.cutWord(I[BII)I -/
def jm_M60 : jm_M := (⟨"FallMarket$Tokens", "cutWord", "(I[BII)I"⟩, prog_8_method_7_code, 8, some .int, [[some (.iload_n 3, 1, 0, 0, 0), some (.istore 5, 2, 0, 0, 0), none, some (.lconst 0, 1, 0, 0, 0), some (.lstore 6, 2, 0, 0, 0), none, some (.iload 5, 2, 0, 0, 0), none, some (.iload 4, 2, 0, 0, 0), none, some (.if_icmp .ge 30, 3, 0, 0, 0), none, none, some (.aload_n 2, 1, 0, 0, 0), some (.iload 5, 2, 0, 0, 0)],
  [some (.baload, 1, 0, 0, 0), some (.invokestatic 55, 3, 65, 0, 618), none, none, some (.ifCond .eq 20, 3, 0, 0, 0), none, none, some (.lload 6, 2, 0, 0, 0), none, some (.aload_n 2, 1, 0, 0, 0), some (.iload 5, 2, 0, 0, 0), none, some (.baload, 1, 0, 0, 0), some (.invokestatic 37, 3, 63, 0, 285)],
  [some (.lstore 6, 2, 0, 0, 0), none, some (.iinc 5 1, 3, 0, 0, 0), none, none, some (.goto (-31), 3, 0, 0, 0), none, none, some (.aload_n 0, 1, 0, 0, 0), some (.getfield 18, 3, 6, 2, 291), none, none, some (.iload_n 1, 1, 0, 0, 0), some (.lload 6, 2, 0, 0, 0), none, some (.lastore, 1, 0, 0, 0)],
  [some (.aload_n 0, 1, 0, 0, 0), some (.getfield 9, 3, 6, 0, 289), none, none, some (.iload_n 1, 1, 0, 0, 0), some (.iload 5, 2, 0, 0, 0), none, some (.iload_n 3, 1, 0, 0, 0), some (.isub, 1, 0, 0, 0), some (.bipush 8, 2, 0, 0, 0), none, some (.if_icmp .le 8, 3, 0, 0, 0), none, none, some (.bipush 25, 2, 0, 0, 0)],
  [some (.goto 9, 3, 0, 0, 0), none, none, some (.aload_n 0, 1, 0, 0, 0), some (.lload 6, 2, 0, 0, 0), none, some (.invokevirtual 70, 3, 62, 0, 625), none, none, some (.iastore, 1, 0, 0, 0), some (.iload 5, 2, 0, 0, 0), none, some (.ireturn, 1, 0, 0, 0)]], 1, 4, 1, 6)
/-- FallMarket$Tokens.cutNumber(I[BII)I -/
def jm_M61 : jm_M := (⟨"FallMarket$Tokens", "cutNumber", "(I[BII)I"⟩, prog_8_method_8_code, 8, some .int, [[some (.iload_n 3, 1, 0, 0, 0), some (.istore 5, 2, 0, 0, 0), none, some (.lconst 0, 1, 0, 0, 0), some (.lstore 6, 2, 0, 0, 0), none, some (.iload 5, 2, 0, 0, 0), none, some (.iload 4, 2, 0, 0, 0), none, some (.if_icmp .ge 36, 3, 0, 0, 0), none, none, some (.aload_n 2, 1, 0, 0, 0), some (.iload 5, 2, 0, 0, 0)],
  [some (.baload, 1, 0, 0, 0), some (.invokestatic 61, 3, 66, 0, 629), none, none, some (.ifCond .eq 26, 3, 0, 0, 0), none, none, some (.lload 6, 2, 0, 0, 0), none, some (.ldc2_w 74, 3, 10, 0, 636), none, none, some (.lmul, 1, 0, 0, 0), some (.aload_n 2, 1, 0, 0, 0), some (.iload 5, 2, 0, 0, 0)],
  [some (.baload, 1, 0, 0, 0), some (.bipush 48, 2, 0, 0, 0), none, some (.isub, 1, 0, 0, 0), some (.i2l, 1, 0, 0, 0), some (.ladd, 1, 0, 0, 0), some (.lstore 6, 2, 0, 0, 0), none, some (.iinc 5 1, 3, 0, 0, 0), none, none, some (.goto (-37), 3, 0, 0, 0), none, none, some (.aload_n 0, 1, 0, 0, 0), some (.getfield 18, 3, 6, 2, 291)],
  [none, none, some (.iload_n 1, 1, 0, 0, 0), some (.lload 6, 2, 0, 0, 0), none, some (.lastore, 1, 0, 0, 0), some (.aload_n 0, 1, 0, 0, 0), some (.getfield 9, 3, 6, 0, 289), none, none, some (.iload_n 1, 1, 0, 0, 0), some (.iload 5, 2, 0, 0, 0), none, some (.iload_n 3, 1, 0, 0, 0), some (.isub, 1, 0, 0, 0), some (.iconst 4, 1, 0, 0, 0)],
  [some (.if_icmp .le 8, 3, 0, 0, 0), none, none, some (.bipush 25, 2, 0, 0, 0), none, some (.goto 5, 3, 0, 0, 0), none, none, some (.bipush 24, 2, 0, 0, 0), none, some (.iastore, 1, 0, 0, 0), some (.iload 5, 2, 0, 0, 0), none, some (.ireturn, 1, 0, 0, 0)]], 1, 4, 1, 6)
/-- FallMarket$Tokens.wordKind(J)I -/
def jm_M62 : jm_M := (⟨"FallMarket$Tokens", "wordKind", "(J)I"⟩, prog_8_method_9_code, 4, some .int, [[some (.iconst 0, 1, 0, 0, 0), some (.istore_n 3, 1, 0, 0, 0), some (.iload_n 3, 1, 0, 0, 0), some (.bipush 23, 2, 0, 0, 0), none, some (.if_icmp .ge 22, 3, 0, 0, 0), none, none, some (.aload_n 0, 1, 0, 0, 0), some (.getfield 22, 3, 6, 3, 292), none, none, some (.iload_n 3, 1, 0, 0, 0), some (.laload, 1, 0, 0, 0), some (.lload_n 1, 1, 0, 0, 0), some (.lcmp, 1, 0, 0, 0)],
  [some (.ifCond .ne 5, 3, 0, 0, 0), none, none, some (.iload_n 3, 1, 0, 0, 0), some (.ireturn, 1, 0, 0, 0), some (.iinc 3 1, 3, 0, 0, 0), none, none, some (.goto (-22), 3, 0, 0, 0), none, none, some (.bipush 23, 2, 0, 0, 0), none, some (.ireturn, 1, 0, 0, 0)]], 1, 1, 1, 6)
/-- FallMarket$Tokens.withLetter(JI)J -/
def jm_M63 : jm_M := (⟨"FallMarket$Tokens", "withLetter", "(JI)J"⟩, prog_8_method_10_code, 3, some .long, [[some (.lload_n 0, 1, 0, 0, 0), some (.ldc2_w 76, 3, 27, 0, 288), none, none, some (.lmul, 1, 0, 0, 0), some (.iload_n 2, 1, 0, 0, 0), some (.bipush 97, 2, 0, 0, 0), none, some (.isub, 1, 0, 0, 0), some (.iconst 1, 1, 0, 0, 0), some (.iadd, 1, 0, 0, 0), some (.i2l, 1, 0, 0, 0), some (.ladd, 1, 0, 0, 0), some (.lreturn, 1, 0, 0, 0)]], 1, 2, 0, 6)
/-- FallMarket$Tokens.isBlank(I)Z -/
def jm_M64 : jm_M := (⟨"FallMarket$Tokens", "isBlank", "(I)Z"⟩, prog_8_method_11_code, 1, some .boolean, [[some (.iload_n 0, 1, 0, 0, 0), some (.bipush 9, 2, 0, 0, 0), none, some (.if_icmp .eq 21, 3, 0, 0, 0), none, none, some (.iload_n 0, 1, 0, 0, 0), some (.bipush 10, 2, 0, 0, 0), none, some (.if_icmp .eq 15, 3, 0, 0, 0), none, none, some (.iload_n 0, 1, 0, 0, 0), some (.bipush 13, 2, 0, 0, 0), none, some (.if_icmp .eq 9, 3, 0, 0, 0)],
  [none, none, some (.iload_n 0, 1, 0, 0, 0), some (.bipush 32, 2, 0, 0, 0), none, some (.if_icmp .ne 7, 3, 0, 0, 0), none, none, some (.iconst 1, 1, 0, 0, 0), some (.goto 4, 3, 0, 0, 0), none, none, some (.iconst 0, 1, 0, 0, 0), some (.ireturn, 1, 0, 0, 0)]], 1, 1, 0, 6)
/-- FallMarket$Tokens.isLetter(I)Z -/
def jm_M65 : jm_M := (⟨"FallMarket$Tokens", "isLetter", "(I)Z"⟩, prog_8_method_12_code, 1, some .boolean, [[some (.iload_n 0, 1, 0, 0, 0), some (.bipush 97, 2, 0, 0, 0), none, some (.if_icmp .lt 13, 3, 0, 0, 0), none, none, some (.iload_n 0, 1, 0, 0, 0), some (.bipush 122, 2, 0, 0, 0), none, some (.if_icmp .gt 7, 3, 0, 0, 0), none, none, some (.iconst 1, 1, 0, 0, 0), some (.goto 4, 3, 0, 0, 0)],
  [some (.iconst 0, 1, 0, 0, 0), some (.ireturn, 1, 0, 0, 0)]], 1, 1, 0, 6)
/-- FallMarket$Tokens.isDigit(I)Z -/
def jm_M66 : jm_M := (⟨"FallMarket$Tokens", "isDigit", "(I)Z"⟩, prog_8_method_13_code, 1, some .boolean, [[some (.iload_n 0, 1, 0, 0, 0), some (.bipush 48, 2, 0, 0, 0), none, some (.if_icmp .lt 13, 3, 0, 0, 0), none, none, some (.iload_n 0, 1, 0, 0, 0), some (.bipush 57, 2, 0, 0, 0), none, some (.if_icmp .gt 7, 3, 0, 0, 0), none, none, some (.iconst 1, 1, 0, 0, 0), some (.goto 4, 3, 0, 0, 0)],
  [some (.iconst 0, 1, 0, 0, 0), some (.ireturn, 1, 0, 0, 0)]], 1, 1, 0, 6)
/-- FallMarket$Tokens.isSign(I)Z -/
def jm_M67 : jm_M := (⟨"FallMarket$Tokens", "isSign", "(I)Z"⟩, prog_8_method_14_code, 1, some .boolean, [[some (.iload_n 0, 1, 0, 0, 0), some (.tableswitch 105 40 61 #[103, 103, 103, 103, 105, 103, 105, 103, 105, 105, 105, 105, 105, 105, 105, 105, 105, 105, 105, 103, 103, 103], 103, 0, 0, 0)],
  [],
  [],
  [],
  [],
  [],
  [none, none, none, none, none, none, none, none, some (.iconst 1, 1, 0, 0, 0), some (.ireturn, 1, 0, 0, 0), some (.iconst 0, 1, 0, 0, 0), some (.ireturn, 1, 0, 0, 0)]], 1, 1, 0, 6)
/-- FallMarket$Told.<init>()V -/
def jm_M68 : jm_M := (⟨"FallMarket$Told", "<init>", "()V"⟩, prog_9_method_1_code, 1, none, [[some (.aload_n 0, 1, 0, 0, 0), some (.invokespecial 3, 3, 0, 2, 472), none, none, some (.aload_n 0, 1, 0, 0, 0), some (.bipush 7, 2, 0, 0, 0), none, some (.newarray .int, 2, 0, 0, 0), none, some (.putfield 9, 3, 7, 13000, 473), none, none, some (.aload_n 0, 1, 0, 0, 0), some (.bipush 7, 2, 0, 0, 0), none, some (.newarray .int, 2, 0, 0, 0)],
  [none, some (.putfield 15, 3, 7, 13001, 474), none, none, some (.aload_n 0, 1, 0, 0, 0), some (.iconst 0, 1, 0, 0, 0), some (.putfield 18, 3, 7, 2, 475), none, none, some (.return_, 1, 0, 0, 0)]], 1, 0, 2, 7)
/-- FallMarket$Told.add(II)I -/
def jm_M69 : jm_M := (⟨"FallMarket$Told", "add", "(II)I"⟩, prog_9_method_2_code, 3, some .int, [[some (.aload_n 0, 1, 0, 0, 0), some (.getfield 18, 3, 7, 2, 475), none, none, some (.bipush 7, 2, 0, 0, 0), none, some (.if_icmp .lt 5, 3, 0, 0, 0), none, none, some (.iconst (-1), 1, 0, 0, 0), some (.ireturn, 1, 0, 0, 0), some (.aload_n 0, 1, 0, 0, 0), some (.getfield 9, 3, 7, 0, 473), none, none, some (.aload_n 0, 1, 0, 0, 0)],
  [some (.getfield 18, 3, 7, 2, 475), none, none, some (.iload_n 1, 1, 0, 0, 0), some (.iastore, 1, 0, 0, 0), some (.aload_n 0, 1, 0, 0, 0), some (.getfield 15, 3, 7, 1, 474), none, none, some (.aload_n 0, 1, 0, 0, 0), some (.getfield 18, 3, 7, 2, 475), none, none, some (.iload_n 2, 1, 0, 0, 0), some (.iastore, 1, 0, 0, 0), some (.aload_n 0, 1, 0, 0, 0)],
  [some (.dup, 1, 0, 0, 0), some (.getfield 18, 3, 7, 2, 475), none, none, some (.iconst 1, 1, 0, 0, 0), some (.iadd, 1, 0, 0, 0), some (.putfield 18, 3, 7, 2, 475), none, none, some (.aload_n 0, 1, 0, 0, 0), some (.getfield 18, 3, 7, 2, 475), none, none, some (.iconst 1, 1, 0, 0, 0), some (.isub, 1, 0, 0, 0), some (.ireturn, 1, 0, 0, 0)]], 1, 2, 1, 7)
/-- FallMarket$Told.rowCount(LFallMarket$Text;I)I -/
def jm_M70 : jm_M := (⟨"FallMarket$Told", "rowCount", "(LFallMarket$Text;I)I"⟩, prog_9_method_3_code, 6, some .int, [[some (.iconst 1, 1, 0, 0, 0), some (.istore_n 3, 1, 0, 0, 0), some (.iconst 0, 1, 0, 0, 0), some (.istore 4, 2, 0, 0, 0), none, some (.iload 4, 2, 0, 0, 0), none, some (.iload_n 2, 1, 0, 0, 0), some (.if_icmp .ge 44, 3, 0, 0, 0), none, none, some (.iload 4, 2, 0, 0, 0), none, some (.bipush 7, 2, 0, 0, 0), none, some (.if_icmp .ge 37, 3, 0, 0, 0)],
  [none, none, some (.aload_n 0, 1, 0, 0, 0), some (.aload_n 1, 1, 0, 0, 0), some (.iload 4, 2, 0, 0, 0), none, some (.invokevirtual 22, 3, 71, 0, 990), none, none, some (.aload_n 0, 1, 0, 0, 0), some (.iload 4, 2, 0, 0, 0), none, some (.invokevirtual 26, 3, 75, 0, 998), none, none, some (.isub, 1, 0, 0, 0)],
  [some (.istore 5, 2, 0, 0, 0), none, some (.iload 5, 2, 0, 0, 0), none, some (.ifCond .gt 5, 3, 0, 0, 0), none, none, some (.iconst 0, 1, 0, 0, 0), some (.ireturn, 1, 0, 0, 0), some (.iload_n 3, 1, 0, 0, 0), some (.iload 5, 2, 0, 0, 0), none, some (.imul, 1, 0, 0, 0), some (.istore_n 3, 1, 0, 0, 0), some (.iinc 4 1, 3, 0, 0, 0)],
  [none, some (.goto (-44), 3, 0, 0, 0), none, none, some (.iload_n 3, 1, 0, 0, 0), some (.ireturn, 1, 0, 0, 0)]], 1, 2, 1, 7)
/-- FallMarket$Told.fitting(LFallMarket$Text;I)I -/
def jm_M71 : jm_M := (⟨"FallMarket$Told", "fitting", "(LFallMarket$Text;I)I"⟩, prog_9_method_4_code, 5, some .int, [[some (.iconst 0, 1, 0, 0, 0), some (.istore_n 3, 1, 0, 0, 0), some (.iconst 0, 1, 0, 0, 0), some (.istore 4, 2, 0, 0, 0), none, some (.iload 4, 2, 0, 0, 0), none, some (.aload_n 1, 1, 0, 0, 0), some (.getfield 30, 3, 5, 0, 146), none, none, some (.if_icmp .ge 23, 3, 0, 0, 0), none, none, some (.aload_n 0, 1, 0, 0, 0), some (.aload_n 1, 1, 0, 0, 0)],
  [some (.iload 4, 2, 0, 0, 0), none, some (.iload_n 2, 1, 0, 0, 0), some (.invokevirtual 35, 3, 74, 0, 994), none, none, some (.ifCond .eq 6, 3, 0, 0, 0), none, none, some (.iinc 3 1, 3, 0, 0, 0), none, none, some (.iinc 4 1, 3, 0, 0, 0), none, none, some (.goto (-26), 3, 0, 0, 0)],
  [none, none, some (.iload_n 3, 1, 0, 0, 0), some (.ireturn, 1, 0, 0, 0)]], 1, 2, 1, 7)
/-- FallMarket$Told.firstFitting(LFallMarket$Text;I)I -/
def jm_M72 : jm_M := (⟨"FallMarket$Told", "firstFitting", "(LFallMarket$Text;I)I"⟩, prog_9_method_5_code, 4, some .int, [[some (.iconst 0, 1, 0, 0, 0), some (.istore_n 3, 1, 0, 0, 0), some (.iload_n 3, 1, 0, 0, 0), some (.aload_n 1, 1, 0, 0, 0), some (.getfield 30, 3, 5, 0, 146), none, none, some (.if_icmp .ge 21, 3, 0, 0, 0), none, none, some (.aload_n 0, 1, 0, 0, 0), some (.aload_n 1, 1, 0, 0, 0), some (.iload_n 3, 1, 0, 0, 0), some (.iload_n 2, 1, 0, 0, 0), some (.invokevirtual 35, 3, 74, 0, 994)],
  [none, some (.ifCond .eq 5, 3, 0, 0, 0), none, none, some (.iload_n 3, 1, 0, 0, 0), some (.ireturn, 1, 0, 0, 0), some (.iinc 3 1, 3, 0, 0, 0), none, none, some (.goto (-23), 3, 0, 0, 0), none, none, some (.bipush (-2), 2, 0, 0, 0), none, some (.ireturn, 1, 0, 0, 0)]], 1, 2, 1, 7)
/-- FallMarket$Told.widest(LFallMarket$Text;I)I -/
def jm_M73 : jm_M := (⟨"FallMarket$Told", "widest", "(LFallMarket$Text;I)I"⟩, prog_9_method_6_code, 5, some .int, [[some (.iconst 0, 1, 0, 0, 0), some (.istore_n 3, 1, 0, 0, 0), some (.iconst 1, 1, 0, 0, 0), some (.istore 4, 2, 0, 0, 0), none, some (.iload 4, 2, 0, 0, 0), none, some (.iload_n 2, 1, 0, 0, 0), some (.if_icmp .ge 35, 3, 0, 0, 0), none, none, some (.iload 4, 2, 0, 0, 0), none, some (.bipush 7, 2, 0, 0, 0), none, some (.if_icmp .ge 28, 3, 0, 0, 0)],
  [none, none, some (.aload_n 0, 1, 0, 0, 0), some (.aload_n 1, 1, 0, 0, 0), some (.iload 4, 2, 0, 0, 0), none, some (.invokevirtual 22, 3, 71, 0, 990), none, none, some (.aload_n 0, 1, 0, 0, 0), some (.aload_n 1, 1, 0, 0, 0), some (.iload_n 3, 1, 0, 0, 0), some (.invokevirtual 22, 3, 71, 0, 990), none, none, some (.if_icmp .le 6, 3, 0, 0, 0)],
  [none, none, some (.iload 4, 2, 0, 0, 0), none, some (.istore_n 3, 1, 0, 0, 0), some (.iinc 4 1, 3, 0, 0, 0), none, none, some (.goto (-35), 3, 0, 0, 0), none, none, some (.iload_n 3, 1, 0, 0, 0), some (.ireturn, 1, 0, 0, 0)]], 1, 2, 1, 7)
/-- FallMarket$Told.isFit(LFallMarket$Text;II)Z -/
def jm_M74 : jm_M := (⟨"FallMarket$Told", "isFit", "(LFallMarket$Text;II)Z"⟩, prog_9_method_7_code, 4, some .boolean, [[some (.aload_n 1, 1, 0, 0, 0), some (.getfield 39, 3, 5, 2, 157), none, none, some (.iload_n 2, 1, 0, 0, 0), some (.iaload, 1, 0, 0, 0), some (.aload_n 0, 1, 0, 0, 0), some (.getfield 9, 3, 7, 0, 473), none, none, some (.iload_n 3, 1, 0, 0, 0), some (.iaload, 1, 0, 0, 0), some (.if_icmp .ne 22, 3, 0, 0, 0), none, none, some (.aload_n 1, 1, 0, 0, 0)],
  [some (.getfield 40, 3, 5, 4, 163), none, none, some (.iload_n 2, 1, 0, 0, 0), some (.iaload, 1, 0, 0, 0), some (.aload_n 0, 1, 0, 0, 0), some (.getfield 15, 3, 7, 1, 474), none, none, some (.iload_n 3, 1, 0, 0, 0), some (.iaload, 1, 0, 0, 0), some (.if_icmp .ne 7, 3, 0, 0, 0), none, none, some (.iconst 1, 1, 0, 0, 0), some (.goto 4, 3, 0, 0, 0)],
  [none, none, some (.iconst 0, 1, 0, 0, 0), some (.ireturn, 1, 0, 0, 0)]], 1, 3, 1, 7)
/-- FallMarket$Told.alikeAhead(I)I -/
def jm_M75 : jm_M := (⟨"FallMarket$Told", "alikeAhead", "(I)I"⟩, prog_9_method_8_code, 4, some .int, [[some (.iconst 0, 1, 0, 0, 0), some (.istore_n 2, 1, 0, 0, 0), some (.iconst 0, 1, 0, 0, 0), some (.istore_n 3, 1, 0, 0, 0), some (.iload_n 3, 1, 0, 0, 0), some (.iload_n 1, 1, 0, 0, 0), some (.if_icmp .ge 42, 3, 0, 0, 0), none, none, some (.aload_n 0, 1, 0, 0, 0), some (.getfield 9, 3, 7, 0, 473), none, none, some (.iload_n 3, 1, 0, 0, 0), some (.iaload, 1, 0, 0, 0), some (.aload_n 0, 1, 0, 0, 0)],
  [some (.getfield 9, 3, 7, 0, 473), none, none, some (.iload_n 1, 1, 0, 0, 0), some (.iaload, 1, 0, 0, 0), some (.if_icmp .ne 21, 3, 0, 0, 0), none, none, some (.aload_n 0, 1, 0, 0, 0), some (.getfield 15, 3, 7, 1, 474), none, none, some (.iload_n 3, 1, 0, 0, 0), some (.iaload, 1, 0, 0, 0), some (.aload_n 0, 1, 0, 0, 0), some (.getfield 15, 3, 7, 1, 474)],
  [none, none, some (.iload_n 1, 1, 0, 0, 0), some (.iaload, 1, 0, 0, 0), some (.if_icmp .ne 6, 3, 0, 0, 0), none, none, some (.iinc 2 1, 3, 0, 0, 0), none, none, some (.iinc 3 1, 3, 0, 0, 0), none, none, some (.goto (-41), 3, 0, 0, 0)],
  [some (.iload_n 2, 1, 0, 0, 0), some (.ireturn, 1, 0, 0, 0)]], 1, 1, 1, 7)
/-- FallMarket$Trail.<init>()V -/
def jm_M76 : jm_M := (⟨"FallMarket$Trail", "<init>", "()V"⟩, prog_10_method_1_code, 1, none, [[some (.aload_n 0, 1, 0, 0, 0), some (.invokespecial 3, 3, 0, 2, 455), none, none, some (.aload_n 0, 1, 0, 0, 0), some (.sipush 2400, 3, 0, 0, 0), none, none, some (.newarray .int, 2, 0, 0, 0), none, some (.putfield 11, 3, 8, 13000, 456), none, none, some (.aload_n 0, 1, 0, 0, 0), some (.iconst 0, 1, 0, 0, 0), some (.putfield 17, 3, 8, 1, 457)],
  [none, none, some (.aload_n 0, 1, 0, 0, 0), some (.iconst 0, 1, 0, 0, 0), some (.putfield 21, 3, 8, 2, 458), none, none, some (.return_, 1, 0, 0, 0)]], 1, 0, 2, 8)
/-- FallMarket$Trail.clear()V -/
def jm_M77 : jm_M := (⟨"FallMarket$Trail", "clear", "()V"⟩, prog_10_method_2_code, 1, none, [[some (.aload_n 0, 1, 0, 0, 0), some (.iconst 0, 1, 0, 0, 0), some (.putfield 17, 3, 8, 1, 457), none, none, some (.aload_n 0, 1, 0, 0, 0), some (.iconst 0, 1, 0, 0, 0), some (.putfield 21, 3, 8, 2, 458), none, none, some (.return_, 1, 0, 0, 0)]], 1, 0, 1, 8)
/-- FallMarket$Trail.remember(LFallMarket$Ground;)V -/
def jm_M78 : jm_M := (⟨"FallMarket$Trail", "remember", "(LFallMarket$Ground;)V"⟩, prog_10_method_3_code, 2, none, [[some (.aload_n 0, 1, 0, 0, 0), some (.getfield 21, 3, 8, 2, 458), none, none, some (.bipush 40, 2, 0, 0, 0), none, some (.if_icmp .ne 26, 3, 0, 0, 0), none, none, some (.aload_n 0, 1, 0, 0, 0), some (.aload_n 0, 1, 0, 0, 0), some (.getfield 17, 3, 8, 1, 457), none, none, some (.iconst 1, 1, 0, 0, 0), some (.iadd, 1, 0, 0, 0)],
  [some (.bipush 40, 2, 0, 0, 0), none, some (.irem, 1, 0, 0, 0), some (.putfield 17, 3, 8, 1, 457), none, none, some (.aload_n 0, 1, 0, 0, 0), some (.dup, 1, 0, 0, 0), some (.getfield 21, 3, 8, 2, 458), none, none, some (.iconst 1, 1, 0, 0, 0), some (.isub, 1, 0, 0, 0), some (.putfield 21, 3, 8, 2, 458)],
  [some (.aload_n 1, 1, 0, 0, 0), some (.aload_n 0, 1, 0, 0, 0), some (.getfield 11, 3, 8, 0, 456), none, none, some (.aload_n 0, 1, 0, 0, 0), some (.getfield 17, 3, 8, 1, 457), none, none, some (.aload_n 0, 1, 0, 0, 0), some (.getfield 21, 3, 8, 2, 458), none, none, some (.iadd, 1, 0, 0, 0), some (.bipush 40, 2, 0, 0, 0)],
  [some (.irem, 1, 0, 0, 0), some (.bipush 60, 2, 0, 0, 0), none, some (.imul, 1, 0, 0, 0), some (.invokevirtual 24, 3, 9, 0, 789), none, none, some (.aload_n 0, 1, 0, 0, 0), some (.dup, 1, 0, 0, 0), some (.getfield 21, 3, 8, 2, 458), none, none, some (.iconst 1, 1, 0, 0, 0), some (.iadd, 1, 0, 0, 0), some (.putfield 21, 3, 8, 2, 458)],
  [none, some (.return_, 1, 0, 0, 0)]], 1, 1, 1, 8)
/-- FallMarket$Trail.stepBack(LFallMarket$Ground;)Z -/
def jm_M79 : jm_M := (⟨"FallMarket$Trail", "stepBack", "(LFallMarket$Ground;)Z"⟩, prog_10_method_4_code, 2, some .boolean, [[some (.aload_n 0, 1, 0, 0, 0), some (.getfield 21, 3, 8, 2, 458), none, none, some (.ifCond .ne 5, 3, 0, 0, 0), none, none, some (.iconst 0, 1, 0, 0, 0), some (.ireturn, 1, 0, 0, 0), some (.aload_n 0, 1, 0, 0, 0), some (.dup, 1, 0, 0, 0), some (.getfield 21, 3, 8, 2, 458), none, none, some (.iconst 1, 1, 0, 0, 0), some (.isub, 1, 0, 0, 0)],
  [some (.putfield 21, 3, 8, 2, 458), none, none, some (.aload_n 1, 1, 0, 0, 0), some (.aload_n 0, 1, 0, 0, 0), some (.getfield 11, 3, 8, 0, 456), none, none, some (.aload_n 0, 1, 0, 0, 0), some (.getfield 17, 3, 8, 1, 457), none, none, some (.aload_n 0, 1, 0, 0, 0), some (.getfield 21, 3, 8, 2, 458)],
  [some (.iadd, 1, 0, 0, 0), some (.bipush 40, 2, 0, 0, 0), none, some (.irem, 1, 0, 0, 0), some (.bipush 60, 2, 0, 0, 0), none, some (.imul, 1, 0, 0, 0), some (.invokevirtual 28, 3, 10, 0, 856), none, none, some (.iconst 1, 1, 0, 0, 0), some (.ireturn, 1, 0, 0, 0)]], 1, 1, 1, 8)
def jm_M80_r0 : List (Option jm_I) := [some (.aload_n 0, 1, 0, 0, 0), some (.invokespecial 1, 3, 0, 2, 118), none, none, some (.aload_n 0, 1, 0, 0, 0), some (.sipush 2000, 3, 0, 0, 0), none, none, some (.newarray .byte, 2, 0, 0, 0), none, some (.putfield 9, 3, 9, 13000, 540), none, none, some (.aload_n 0, 1, 0, 0, 0), some (.iconst 0, 1, 0, 0, 0), some (.putfield 13, 3, 9, 1, 541)]
def jm_M80_r1 : List (Option jm_I) := [none, none, some (.aload_n 0, 1, 0, 0, 0), some (.iconst (-1), 1, 0, 0, 0), some (.putfield 17, 3, 9, 2, 542), none, none, some (.aload_n 0, 1, 0, 0, 0), some (.new 20, 3, 5, 0, 121), none, none, some (.dup, 1, 0, 0, 0), some (.invokespecial 22, 3, 46, 0, 123), none, none, some (.putfield 23, 3, 9, 3003, 543)]
def jm_M80_r2 : List (Option jm_I) := [none, none, some (.aload_n 0, 1, 0, 0, 0), some (.new 20, 3, 5, 0, 121), none, none, some (.dup, 1, 0, 0, 0), some (.invokespecial 22, 3, 46, 0, 123), none, none, some (.putfield 27, 3, 9, 3004, 544), none, none, some (.aload_n 0, 1, 0, 0, 0), some (.new 30, 3, 4, 0, 224)]
def jm_M80_r3 : List (Option jm_I) := [none, some (.dup, 1, 0, 0, 0), some (.aload_n 0, 1, 0, 0, 0), some (.getfield 27, 3, 9, 4, 544), none, none, some (.invokespecial 32, 3, 30, 0, 226), none, none, some (.putfield 35, 3, 9, 13005, 545), none, none, some (.aload_n 0, 1, 0, 0, 0), some (.new 39, 3, 2, 0, 334)]
def jm_M80_r4 : List (Option jm_I) := [some (.dup, 1, 0, 0, 0), some (.invokespecial 41, 3, 16, 1, 336), none, none, some (.putfield 42, 3, 9, 13006, 546), none, none, some (.aload_n 0, 1, 0, 0, 0), some (.new 46, 3, 0, 0, 349), none, none, some (.dup, 1, 0, 0, 0), some (.aload_n 0, 1, 0, 0, 0), some (.getfield 42, 3, 9, 6, 546)]
def jm_M80_r5 : List (Option jm_I) := [some (.invokespecial 48, 3, 0, 0, 351), none, none, some (.putfield 51, 3, 9, 13007, 547), none, none, some (.aload_n 0, 1, 0, 0, 0), some (.new 55, 3, 3, 0, 359), none, none, some (.dup, 1, 0, 0, 0), some (.aload_n 0, 1, 0, 0, 0), some (.getfield 42, 3, 9, 6, 546), none, none, some (.invokespecial 57, 3, 24, 0, 361)]
def jm_M80_r6 : List (Option jm_I) := [none, none, some (.putfield 58, 3, 9, 13008, 548), none, none, some (.aload_n 0, 1, 0, 0, 0), some (.new 62, 3, 1, 0, 380), none, none, some (.dup, 1, 0, 0, 0), some (.invokespecial 64, 3, 6, 1, 382), none, none, some (.putfield 65, 3, 9, 13009, 549)]
def jm_M80_r7 : List (Option jm_I) := [some (.aload_n 0, 1, 0, 0, 0), some (.new 62, 3, 1, 0, 380), none, none, some (.dup, 1, 0, 0, 0), some (.invokespecial 64, 3, 6, 1, 382), none, none, some (.putfield 69, 3, 9, 13010, 550), none, none, some (.aload_n 0, 1, 0, 0, 0), some (.new 72, 3, 8, 0, 450), none, none, some (.dup, 1, 0, 0, 0)]
def jm_M80_r8 : List (Option jm_I) := [some (.invokespecial 74, 3, 76, 1, 452), none, none, some (.putfield 75, 3, 9, 13011, 551), none, none, some (.aload_n 0, 1, 0, 0, 0), some (.sipush 180, 3, 0, 0, 0), none, none, some (.newarray .int, 2, 0, 0, 0), none, some (.putfield 79, 3, 9, 13012, 552), none, none, some (.aload_n 0, 1, 0, 0, 0)]
def jm_M80_r9 : List (Option jm_I) := [some (.iconst 3, 1, 0, 0, 0), some (.newarray .boolean, 2, 0, 0, 0), none, some (.putfield 83, 3, 9, 13013, 553), none, none, some (.aload_n 0, 1, 0, 0, 0), some (.new 87, 3, 7, 0, 467), none, none, some (.dup, 1, 0, 0, 0), some (.invokespecial 89, 3, 68, 1, 469), none, none, some (.putfield 90, 3, 9, 13014, 554)]
def jm_M80_r10 : List (Option jm_I) := [none, some (.aload_n 0, 1, 0, 0, 0), some (.invokevirtual 94, 3, 117, 0, 485), none, none, some (.return_, 1, 0, 0, 0)]
/-- FallMarket.<init>()V -/
def jm_M80 : jm_M := (⟨"FallMarket", "<init>", "()V"⟩, prog_1_method_1_code, 1, none, [jm_M80_r0, jm_M80_r1, jm_M80_r2, jm_M80_r3, jm_M80_r4, jm_M80_r5, jm_M80_r6, jm_M80_r7, jm_M80_r8, jm_M80_r9, jm_M80_r10], 1, 0, 2, 9)
/-- FallMarket.feed(IIIII)I -/
def jm_M81 : jm_M := (⟨"FallMarket", "feed", "(IIIII)I"⟩, prog_1_method_2_code, 6, some .int, [[some (.aload_n 0, 1, 0, 0, 0), some (.getfield 13, 3, 9, 1, 541), none, none, some (.bipush 20, 2, 0, 0, 0), none, some (.iadd, 1, 0, 0, 0), some (.sipush 2000, 3, 0, 0, 0), none, none, some (.if_icmp .le 5, 3, 0, 0, 0), none, none, some (.iconst (-1), 1, 0, 0, 0), some (.ireturn, 1, 0, 0, 0), some (.aload_n 0, 1, 0, 0, 0)],
  [some (.iload_n 1, 1, 0, 0, 0), some (.invokevirtual 97, 3, 116, 0, 590), none, none, some (.aload_n 0, 1, 0, 0, 0), some (.iload_n 2, 1, 0, 0, 0), some (.invokevirtual 97, 3, 116, 0, 590), none, none, some (.aload_n 0, 1, 0, 0, 0), some (.iload_n 3, 1, 0, 0, 0), some (.invokevirtual 97, 3, 116, 0, 590), none, none, some (.aload_n 0, 1, 0, 0, 0), some (.iload 4, 2, 0, 0, 0)],
  [none, some (.invokevirtual 97, 3, 116, 0, 590), none, none, some (.aload_n 0, 1, 0, 0, 0), some (.iload 5, 2, 0, 0, 0), none, some (.invokevirtual 97, 3, 116, 0, 590), none, none, some (.aload_n 0, 1, 0, 0, 0), some (.getfield 13, 3, 9, 1, 541), none, none, some (.ireturn, 1, 0, 0, 0)]], 1, 5, 1, 9)
/-- FallMarket.back(I)I -/
def jm_M82 : jm_M := (⟨"FallMarket", "back", "(I)I"⟩, prog_1_method_3_code, 2, some .int, [[some (.iload_n 1, 1, 0, 0, 0), some (.ifCond .lt 11, 3, 0, 0, 0), none, none, some (.iload_n 1, 1, 0, 0, 0), some (.aload_n 0, 1, 0, 0, 0), some (.getfield 13, 3, 9, 1, 541), none, none, some (.if_icmp .le 5, 3, 0, 0, 0), none, none, some (.iconst (-1), 1, 0, 0, 0), some (.ireturn, 1, 0, 0, 0), some (.aload_n 0, 1, 0, 0, 0), some (.dup, 1, 0, 0, 0)],
  [some (.getfield 13, 3, 9, 1, 541), none, none, some (.iload_n 1, 1, 0, 0, 0), some (.isub, 1, 0, 0, 0), some (.putfield 13, 3, 9, 1, 541), none, none, some (.aload_n 0, 1, 0, 0, 0), some (.getfield 13, 3, 9, 1, 541), none, none, some (.ireturn, 1, 0, 0, 0)]], 1, 1, 1, 9)
/-- FallMarket.read()I -/
def jm_M83 : jm_M := (⟨"FallMarket", "read", "()I"⟩, prog_1_method_4_code, 3, some .int, [[some (.aload_n 0, 1, 0, 0, 0), some (.getfield 35, 3, 9, 5, 545), none, none, some (.aload_n 0, 1, 0, 0, 0), some (.getfield 9, 3, 9, 0, 540), none, none, some (.aload_n 0, 1, 0, 0, 0), some (.getfield 13, 3, 9, 1, 541), none, none, some (.aload_n 0, 1, 0, 0, 0), some (.getfield 27, 3, 9, 4, 544)],
  [some (.invokevirtual 101, 3, 31, 0, 602), none, none, some (.istore_n 1, 1, 0, 0, 0), some (.aload_n 0, 1, 0, 0, 0), some (.aload_n 0, 1, 0, 0, 0), some (.getfield 35, 3, 9, 5, 545), none, none, some (.invokevirtual 105, 3, 32, 0, 724), none, none, some (.putfield 17, 3, 9, 2, 542), none, none, some (.aload_n 0, 1, 0, 0, 0)],
  [some (.iconst 0, 1, 0, 0, 0), some (.putfield 13, 3, 9, 1, 541), none, none, some (.iload_n 1, 1, 0, 0, 0), some (.ifCond .ne 25, 3, 0, 0, 0), none, none, some (.aload_n 0, 1, 0, 0, 0), some (.getfield 23, 3, 9, 3, 543), none, none, some (.astore_n 2, 1, 0, 0, 0), some (.aload_n 0, 1, 0, 0, 0), some (.aload_n 0, 1, 0, 0, 0), some (.getfield 27, 3, 9, 4, 544)],
  [none, none, some (.putfield 23, 3, 9, 3003, 543), none, none, some (.aload_n 0, 1, 0, 0, 0), some (.aload_n 2, 1, 0, 0, 0), some (.putfield 27, 3, 9, 3004, 544), none, none, some (.aload_n 0, 1, 0, 0, 0), some (.invokevirtual 94, 3, 117, 0, 485), none, none, some (.iload_n 1, 1, 0, 0, 0), some (.ireturn, 1, 0, 0, 0)]], 1, 0, 1, 9)
/-- FallMarket.place()I -/
def jm_M84 : jm_M := (⟨"FallMarket", "place", "()I"⟩, prog_1_method_5_code, 1, some .int, [[some (.aload_n 0, 1, 0, 0, 0), some (.getfield 17, 3, 9, 2, 542), none, none, some (.ireturn, 1, 0, 0, 0)]], 1, 0, 1, 9)
def jm_M85_r0 : List (Option jm_I) := [some (.aload_n 0, 1, 0, 0, 0), some (.iload_n 1, 1, 0, 0, 0), some (.invokevirtual 108, 3, 118, 0, 736), none, none, some (.ifCond .ne 5, 3, 0, 0, 0), none, none, some (.iconst (-1), 1, 0, 0, 0), some (.ireturn, 1, 0, 0, 0), some (.iload_n 2, 1, 0, 0, 0), some (.tableswitch 150 0 7 #[45, 80, 90, 100, 110, 120, 130, 140], 45, 0, 0, 0)]
def jm_M85_r1 : List (Option jm_I) := []
def jm_M85_r2 : List (Option jm_I) := []
def jm_M85_r3 : List (Option jm_I) := [none, none, none, none, none, none, none, none, some (.aload_n 0, 1, 0, 0, 0), some (.getfield 65, 3, 9, 9, 549), none, none, some (.getfield 112, 3, 1, 4, 402), none, none, some (.iload_n 1, 1, 0, 0, 0)]
def jm_M85_r4 : List (Option jm_I) := [some (.iaload, 1, 0, 0, 0), some (.iconst 1, 1, 0, 0, 0), some (.if_icmp .ne 15, 3, 0, 0, 0), none, none, some (.aload_n 0, 1, 0, 0, 0), some (.getfield 65, 3, 9, 9, 549), none, none, some (.getfield 115, 3, 1, 9, 420), none, none, some (.iload_n 1, 1, 0, 0, 0), some (.iaload, 1, 0, 0, 0), some (.goto 12, 3, 0, 0, 0)]
def jm_M85_r5 : List (Option jm_I) := [none, some (.aload_n 0, 1, 0, 0, 0), some (.getfield 23, 3, 9, 3, 543), none, none, some (.getfield 118, 3, 5, 1, 153), none, none, some (.iload_n 1, 1, 0, 0, 0), some (.iaload, 1, 0, 0, 0), some (.ireturn, 1, 0, 0, 0), some (.aload_n 0, 1, 0, 0, 0), some (.getfield 23, 3, 9, 3, 543), none, none, some (.getfield 121, 3, 5, 2, 156)]
def jm_M85_r6 : List (Option jm_I) := [none, none, some (.iload_n 1, 1, 0, 0, 0), some (.iaload, 1, 0, 0, 0), some (.ireturn, 1, 0, 0, 0), some (.aload_n 0, 1, 0, 0, 0), some (.getfield 65, 3, 9, 9, 549), none, none, some (.getfield 124, 3, 1, 3, 398), none, none, some (.iload_n 1, 1, 0, 0, 0), some (.iaload, 1, 0, 0, 0), some (.ireturn, 1, 0, 0, 0), some (.aload_n 0, 1, 0, 0, 0)]
def jm_M85_r7 : List (Option jm_I) := [some (.getfield 65, 3, 9, 9, 549), none, none, some (.getfield 112, 3, 1, 4, 402), none, none, some (.iload_n 1, 1, 0, 0, 0), some (.iaload, 1, 0, 0, 0), some (.ireturn, 1, 0, 0, 0), some (.aload_n 0, 1, 0, 0, 0), some (.getfield 65, 3, 9, 9, 549), none, none, some (.getfield 127, 3, 1, 5, 404)]
def jm_M85_r8 : List (Option jm_I) := [some (.iload_n 1, 1, 0, 0, 0), some (.iaload, 1, 0, 0, 0), some (.ireturn, 1, 0, 0, 0), some (.aload_n 0, 1, 0, 0, 0), some (.getfield 65, 3, 9, 9, 549), none, none, some (.getfield 130, 3, 1, 6, 408), none, none, some (.iload_n 1, 1, 0, 0, 0), some (.iaload, 1, 0, 0, 0), some (.ireturn, 1, 0, 0, 0), some (.aload_n 0, 1, 0, 0, 0), some (.getfield 65, 3, 9, 9, 549)]
def jm_M85_r9 : List (Option jm_I) := [none, some (.getfield 133, 3, 1, 7, 412), none, none, some (.iload_n 1, 1, 0, 0, 0), some (.iaload, 1, 0, 0, 0), some (.ireturn, 1, 0, 0, 0), some (.aload_n 0, 1, 0, 0, 0), some (.getfield 65, 3, 9, 9, 549), none, none, some (.getfield 136, 3, 1, 8, 417), none, none, some (.iload_n 1, 1, 0, 0, 0), some (.iaload, 1, 0, 0, 0)]
def jm_M85_r10 : List (Option jm_I) := [some (.ireturn, 1, 0, 0, 0), some (.iconst (-1), 1, 0, 0, 0), some (.ireturn, 1, 0, 0, 0)]
/-- FallMarket.fruit(II)I -/
def jm_M85 : jm_M := (⟨"FallMarket", "fruit", "(II)I"⟩, prog_1_method_6_code, 3, some .int, [jm_M85_r0, jm_M85_r1, jm_M85_r2, jm_M85_r3, jm_M85_r4, jm_M85_r5, jm_M85_r6, jm_M85_r7, jm_M85_r8, jm_M85_r9, jm_M85_r10], 1, 2, 1, 9)
/-- FallMarket.buyer(II)I -/
def jm_M86 : jm_M := (⟨"FallMarket", "buyer", "(II)I"⟩, prog_1_method_7_code, 3, some .int, [[some (.aload_n 0, 1, 0, 0, 0), some (.iload_n 1, 1, 0, 0, 0), some (.invokevirtual 139, 3, 119, 0, 744), none, none, some (.ifCond .ne 5, 3, 0, 0, 0), none, none, some (.iconst (-1), 1, 0, 0, 0), some (.ireturn, 1, 0, 0, 0), some (.iload_n 2, 1, 0, 0, 0), some (.tableswitch 65 0 3 #[29, 39, 49, 59], 29, 0, 0, 0)],
  [],
  [none, none, none, none, none, none, none, none, some (.aload_n 0, 1, 0, 0, 0), some (.getfield 65, 3, 9, 9, 549), none, none, some (.getfield 142, 3, 1, 10, 422), none, none, some (.iload_n 1, 1, 0, 0, 0)],
  [some (.iaload, 1, 0, 0, 0), some (.ireturn, 1, 0, 0, 0), some (.aload_n 0, 1, 0, 0, 0), some (.getfield 23, 3, 9, 3, 543), none, none, some (.getfield 145, 3, 5, 7, 171), none, none, some (.iload_n 1, 1, 0, 0, 0), some (.iaload, 1, 0, 0, 0), some (.ireturn, 1, 0, 0, 0), some (.aload_n 0, 1, 0, 0, 0), some (.getfield 65, 3, 9, 9, 549)],
  [some (.getfield 148, 3, 1, 11, 424), none, none, some (.iload_n 1, 1, 0, 0, 0), some (.iaload, 1, 0, 0, 0), some (.ireturn, 1, 0, 0, 0), some (.aload_n 0, 1, 0, 0, 0), some (.iload_n 1, 1, 0, 0, 0), some (.invokevirtual 151, 3, 123, 0, 748), none, none, some (.ireturn, 1, 0, 0, 0), some (.iconst (-1), 1, 0, 0, 0), some (.ireturn, 1, 0, 0, 0)]], 1, 2, 1, 9)
/-- FallMarket.tells(II)I -/
def jm_M87 : jm_M := (⟨"FallMarket", "tells", "(II)I"⟩, prog_1_method_8_code, 3, some .int, [[some (.aload_n 0, 1, 0, 0, 0), some (.iload_n 1, 1, 0, 0, 0), some (.invokevirtual 108, 3, 118, 0, 736), none, none, some (.ifCond .ne 6, 3, 0, 0, 0), none, none, some (.bipush (-100), 2, 0, 0, 0), none, some (.ireturn, 1, 0, 0, 0), some (.aload_n 0, 1, 0, 0, 0), some (.iload_n 1, 1, 0, 0, 0), some (.invokevirtual 155, 3, 120, 0, 756)],
  [some (.iload_n 2, 1, 0, 0, 0), some (.tableswitch 83 0 3 #[31, 44, 57, 70], 31, 0, 0, 0)],
  [],
  [some (.aload_n 0, 1, 0, 0, 0), some (.getfield 42, 3, 9, 6, 546), none, none, some (.aload_n 0, 1, 0, 0, 0), some (.getfield 23, 3, 9, 3, 543), none, none, some (.iconst 2, 1, 0, 0, 0), some (.invokevirtual 158, 3, 21, 0, 779), none, none, some (.ireturn, 1, 0, 0, 0), some (.aload_n 0, 1, 0, 0, 0), some (.getfield 42, 3, 9, 6, 546)],
  [none, some (.aload_n 0, 1, 0, 0, 0), some (.getfield 23, 3, 9, 3, 543), none, none, some (.iconst 1, 1, 0, 0, 0), some (.invokevirtual 158, 3, 21, 0, 779), none, none, some (.ireturn, 1, 0, 0, 0), some (.aload_n 0, 1, 0, 0, 0), some (.getfield 42, 3, 9, 6, 546), none, none, some (.aload_n 0, 1, 0, 0, 0), some (.getfield 23, 3, 9, 3, 543)],
  [none, none, some (.iconst 3, 1, 0, 0, 0), some (.invokevirtual 158, 3, 21, 0, 779), none, none, some (.ireturn, 1, 0, 0, 0), some (.aload_n 0, 1, 0, 0, 0), some (.getfield 42, 3, 9, 6, 546), none, none, some (.aload_n 0, 1, 0, 0, 0), some (.getfield 23, 3, 9, 3, 543), none, none, some (.iconst 4, 1, 0, 0, 0)],
  [some (.invokevirtual 158, 3, 21, 0, 779), none, none, some (.ireturn, 1, 0, 0, 0), some (.bipush (-100), 2, 0, 0, 0), none, some (.ireturn, 1, 0, 0, 0)]], 1, 2, 1, 9)
/-- FallMarket.go(II)Z -/
def jm_M88 : jm_M := (⟨"FallMarket", "go", "(II)Z"⟩, prog_1_method_9_code, 3, some .boolean, [[some (.aload_n 0, 1, 0, 0, 0), some (.iload_n 1, 1, 0, 0, 0), some (.invokevirtual 139, 3, 119, 0, 744), none, none, some (.ifCond .eq 26, 3, 0, 0, 0), none, none, some (.iload_n 2, 1, 0, 0, 0), some (.iconst 0, 1, 0, 0, 0), some (.bipush 9, 2, 0, 0, 0), none, some (.invokestatic 161, 3, 128, 0, 784), none, none, some (.ifCond .eq 16, 3, 0, 0, 0)],
  [none, none, some (.aload_n 0, 1, 0, 0, 0), some (.getfield 65, 3, 9, 9, 549), none, none, some (.getfield 142, 3, 1, 10, 422), none, none, some (.iload_n 1, 1, 0, 0, 0), some (.iaload, 1, 0, 0, 0), some (.iload_n 2, 1, 0, 0, 0), some (.if_icmp .ne 5, 3, 0, 0, 0), none, none, some (.iconst 0, 1, 0, 0, 0)],
  [some (.ireturn, 1, 0, 0, 0), some (.aload_n 0, 1, 0, 0, 0), some (.getfield 75, 3, 9, 11, 551), none, none, some (.aload_n 0, 1, 0, 0, 0), some (.getfield 65, 3, 9, 9, 549), none, none, some (.invokevirtual 165, 3, 78, 0, 785), none, none, some (.aload_n 0, 1, 0, 0, 0), some (.getfield 65, 3, 9, 9, 549)],
  [some (.getfield 142, 3, 1, 10, 422), none, none, some (.iload_n 1, 1, 0, 0, 0), some (.iload_n 2, 1, 0, 0, 0), some (.iastore, 1, 0, 0, 0), some (.iconst 1, 1, 0, 0, 0), some (.ireturn, 1, 0, 0, 0)]], 1, 2, 1, 9)
/-- FallMarket.prop(IZ)Z -/
def jm_M89 : jm_M := (⟨"FallMarket", "prop", "(IZ)Z"⟩, prog_1_method_10_code, 4, some .boolean, [[some (.iload_n 2, 1, 0, 0, 0), some (.ifCond .eq 7, 3, 0, 0, 0), none, none, some (.iconst 1, 1, 0, 0, 0), some (.goto 4, 3, 0, 0, 0), none, none, some (.iconst 0, 1, 0, 0, 0), some (.istore_n 3, 1, 0, 0, 0), some (.aload_n 0, 1, 0, 0, 0), some (.iload_n 1, 1, 0, 0, 0), some (.invokevirtual 108, 3, 118, 0, 736), none, none, some (.ifCond .eq 28, 3, 0, 0, 0)],
  [none, none, some (.aload_n 0, 1, 0, 0, 0), some (.getfield 65, 3, 9, 9, 549), none, none, some (.getfield 112, 3, 1, 4, 402), none, none, some (.iload_n 1, 1, 0, 0, 0), some (.iaload, 1, 0, 0, 0), some (.ifCond .ne 16, 3, 0, 0, 0), none, none, some (.aload_n 0, 1, 0, 0, 0), some (.getfield 65, 3, 9, 9, 549)],
  [none, none, some (.getfield 133, 3, 1, 7, 412), none, none, some (.iload_n 1, 1, 0, 0, 0), some (.iaload, 1, 0, 0, 0), some (.iload_n 3, 1, 0, 0, 0), some (.if_icmp .ne 5, 3, 0, 0, 0), none, none, some (.iconst 0, 1, 0, 0, 0), some (.ireturn, 1, 0, 0, 0), some (.aload_n 0, 1, 0, 0, 0), some (.getfield 75, 3, 9, 11, 551)],
  [none, some (.aload_n 0, 1, 0, 0, 0), some (.getfield 65, 3, 9, 9, 549), none, none, some (.invokevirtual 165, 3, 78, 0, 785), none, none, some (.aload_n 0, 1, 0, 0, 0), some (.getfield 65, 3, 9, 9, 549), none, none, some (.getfield 133, 3, 1, 7, 412), none, none, some (.iload_n 1, 1, 0, 0, 0)],
  [some (.iload_n 3, 1, 0, 0, 0), some (.iastore, 1, 0, 0, 0), some (.iconst 1, 1, 0, 0, 0), some (.ireturn, 1, 0, 0, 0)]], 1, 2, 1, 9)
def jm_M90_r0 : List (Option jm_I) := [some (.aload_n 0, 1, 0, 0, 0), some (.iload_n 1, 1, 0, 0, 0), some (.invokevirtual 108, 3, 118, 0, 736), none, none, some (.ifCond .ne 5, 3, 0, 0, 0), none, none, some (.iconst (-1), 1, 0, 0, 0), some (.ireturn, 1, 0, 0, 0), some (.aload_n 0, 1, 0, 0, 0), some (.getfield 65, 3, 9, 9, 549), none, none, some (.getfield 112, 3, 1, 4, 402)]
def jm_M90_r1 : List (Option jm_I) := [none, some (.iload_n 1, 1, 0, 0, 0), some (.iaload, 1, 0, 0, 0), some (.ifCond .eq 6, 3, 0, 0, 0), none, none, some (.bipush (-2), 2, 0, 0, 0), none, some (.ireturn, 1, 0, 0, 0), some (.aload_n 0, 1, 0, 0, 0), some (.getfield 75, 3, 9, 11, 551), none, none, some (.aload_n 0, 1, 0, 0, 0), some (.getfield 65, 3, 9, 9, 549)]
def jm_M90_r2 : List (Option jm_I) := [none, some (.invokevirtual 165, 3, 78, 0, 785), none, none, some (.aload_n 0, 1, 0, 0, 0), some (.getfield 23, 3, 9, 3, 543), none, none, some (.getfield 169, 3, 5, 11, 183), none, none, some (.ldc 172, 2, 1000000, 0, 801), none, some (.aload_n 0, 1, 0, 0, 0), some (.getfield 65, 3, 9, 9, 549)]
def jm_M90_r3 : List (Option jm_I) := [none, some (.getfield 173, 3, 1, 1, 391), none, none, some (.iadd, 1, 0, 0, 0), some (.invokestatic 176, 3, 1, 0, 802), none, none, some (.istore_n 2, 1, 0, 0, 0), some (.aload_n 0, 1, 0, 0, 0), some (.getfield 65, 3, 9, 9, 549), none, none, some (.getfield 136, 3, 1, 8, 417)]
def jm_M90_r4 : List (Option jm_I) := [some (.iload_n 1, 1, 0, 0, 0), some (.dup2, 1, 0, 0, 0), some (.iaload, 1, 0, 0, 0), some (.iconst 1, 1, 0, 0, 0), some (.iadd, 1, 0, 0, 0), some (.iastore, 1, 0, 0, 0), some (.aload_n 0, 1, 0, 0, 0), some (.getfield 65, 3, 9, 9, 549), none, none, some (.dup, 1, 0, 0, 0), some (.getfield 173, 3, 1, 1, 391), none, none, some (.iconst 1, 1, 0, 0, 0), some (.iadd, 1, 0, 0, 0)]
def jm_M90_r5 : List (Option jm_I) := [some (.putfield 173, 3, 1, 1, 391), none, none, some (.aload_n 0, 1, 0, 0, 0), some (.getfield 42, 3, 9, 6, 546), none, none, some (.aload_n 0, 1, 0, 0, 0), some (.getfield 23, 3, 9, 3, 543), none, none, some (.aload_n 0, 1, 0, 0, 0), some (.getfield 65, 3, 9, 9, 549), none, none, some (.getfield 180, 3, 1, 0, 389)]
def jm_M90_r6 : List (Option jm_I) := [none, none, some (.aload_n 0, 1, 0, 0, 0), some (.getfield 65, 3, 9, 9, 549), none, none, some (.iconst 0, 1, 0, 0, 0), some (.aload_n 0, 1, 0, 0, 0), some (.getfield 23, 3, 9, 3, 543), none, none, some (.getfield 183, 3, 5, 0, 148), none, none, some (.invokevirtual 186, 3, 12, 0, 760)]
def jm_M90_r7 : List (Option jm_I) := [none, some (.invokevirtual 189, 3, 17, 0, 774), none, none, some (.aload_n 0, 1, 0, 0, 0), some (.getfield 42, 3, 9, 6, 546), none, none, some (.getfield 193, 3, 2, 0, 342), none, none, some (.iconst 5, 1, 0, 0, 0), some (.aload_n 0, 1, 0, 0, 0), some (.getfield 65, 3, 9, 9, 549)]
def jm_M90_r8 : List (Option jm_I) := [some (.getfield 173, 3, 1, 1, 391), none, none, some (.iastore, 1, 0, 0, 0), some (.iload_n 2, 1, 0, 0, 0), some (.aload_n 0, 1, 0, 0, 0), some (.getfield 42, 3, 9, 6, 546), none, none, some (.aload_n 0, 1, 0, 0, 0), some (.getfield 23, 3, 9, 3, 543), none, none, some (.iconst 5, 1, 0, 0, 0), some (.invokevirtual 158, 3, 21, 0, 779)]
def jm_M90_r9 : List (Option jm_I) := [none, some (.if_icmp .ge 7, 3, 0, 0, 0), none, none, some (.iconst 1, 1, 0, 0, 0), some (.goto 4, 3, 0, 0, 0), none, none, some (.iconst 0, 1, 0, 0, 0), some (.istore_n 3, 1, 0, 0, 0), some (.iload_n 3, 1, 0, 0, 0), some (.ifCond .eq 16, 3, 0, 0, 0), none, none, some (.aload_n 0, 1, 0, 0, 0), some (.getfield 65, 3, 9, 9, 549)]
def jm_M90_r10 : List (Option jm_I) := [none, none, some (.dup, 1, 0, 0, 0), some (.getfield 196, 3, 1, 2, 393), none, none, some (.iconst 1, 1, 0, 0, 0), some (.iadd, 1, 0, 0, 0), some (.putfield 196, 3, 1, 2, 393), none, none, some (.iload_n 3, 1, 0, 0, 0), some (.ifCond .eq 7, 3, 0, 0, 0), none, none, some (.iconst 1, 1, 0, 0, 0)]
def jm_M90_r11 : List (Option jm_I) := [some (.goto 4, 3, 0, 0, 0), none, none, some (.iconst 0, 1, 0, 0, 0), some (.ireturn, 1, 0, 0, 0)]
/-- FallMarket.shake(I)I -/
def jm_M90 : jm_M := (⟨"FallMarket", "shake", "(I)I"⟩, prog_1_method_11_code, 4, some .int, [jm_M90_r0, jm_M90_r1, jm_M90_r2, jm_M90_r3, jm_M90_r4, jm_M90_r5, jm_M90_r6, jm_M90_r7, jm_M90_r8, jm_M90_r9, jm_M90_r10, jm_M90_r11], 1, 1, 1, 9)
/-- FallMarket.hours(I)I -/
def jm_M91 : jm_M := (⟨"FallMarket", "hours", "(I)I"⟩, prog_1_method_12_code, 3, some .int, [[some (.iload_n 1, 1, 0, 0, 0), some (.iconst 0, 1, 0, 0, 0), some (.bipush 48, 2, 0, 0, 0), none, some (.invokestatic 161, 3, 128, 0, 784), none, none, some (.ifCond .ne 5, 3, 0, 0, 0), none, none, some (.iconst (-1), 1, 0, 0, 0), some (.ireturn, 1, 0, 0, 0), some (.iload_n 1, 1, 0, 0, 0), some (.ifCond .le 49, 3, 0, 0, 0)],
  [some (.aload_n 0, 1, 0, 0, 0), some (.getfield 75, 3, 9, 11, 551), none, none, some (.aload_n 0, 1, 0, 0, 0), some (.getfield 65, 3, 9, 9, 549), none, none, some (.invokevirtual 165, 3, 78, 0, 785), none, none, some (.iconst 0, 1, 0, 0, 0), some (.istore_n 2, 1, 0, 0, 0), some (.iload_n 2, 1, 0, 0, 0), some (.iload_n 1, 1, 0, 0, 0), some (.if_icmp .ge 31, 3, 0, 0, 0)],
  [none, none, some (.aload_n 0, 1, 0, 0, 0), some (.getfield 51, 3, 9, 7, 547), none, none, some (.aload_n 0, 1, 0, 0, 0), some (.getfield 23, 3, 9, 3, 543), none, none, some (.aload_n 0, 1, 0, 0, 0), some (.getfield 65, 3, 9, 9, 549), none, none, some (.aload_n 0, 1, 0, 0, 0), some (.getfield 23, 3, 9, 3, 543)],
  [none, none, some (.getfield 169, 3, 5, 11, 183), none, none, some (.invokevirtual 199, 3, 3, 0, 813), none, none, some (.iinc 2 1, 3, 0, 0, 0), none, none, some (.goto (-30), 3, 0, 0, 0), none, none, some (.aload_n 0, 1, 0, 0, 0), some (.getfield 65, 3, 9, 9, 549)],
  [none, none, some (.getfield 180, 3, 1, 0, 389), none, none, some (.ireturn, 1, 0, 0, 0)]], 1, 1, 1, 9)
/-- FallMarket.undo()Z -/
def jm_M92 : jm_M := (⟨"FallMarket", "undo", "()Z"⟩, prog_1_method_13_code, 1, some .boolean, [[some (.aload_n 0, 1, 0, 0, 0), some (.getfield 75, 3, 9, 11, 551), none, none, some (.aload_n 0, 1, 0, 0, 0), some (.getfield 65, 3, 9, 9, 549), none, none, some (.invokevirtual 203, 3, 79, 0, 852), none, none, some (.ireturn, 1, 0, 0, 0)]], 1, 0, 1, 9)
/-- FallMarket.hangsOn(IIZ)I -/
def jm_M93 : jm_M := (⟨"FallMarket", "hangsOn", "(IIZ)I"⟩, prog_1_method_14_code, 7, some .int, [[some (.aload_n 0, 1, 0, 0, 0), some (.iload_n 1, 1, 0, 0, 0), some (.invokevirtual 108, 3, 118, 0, 736), none, none, some (.ifCond .eq 12, 3, 0, 0, 0), none, none, some (.iload_n 2, 1, 0, 0, 0), some (.iconst 1, 1, 0, 0, 0), some (.iconst 4, 1, 0, 0, 0), some (.invokestatic 161, 3, 128, 0, 784), none, none, some (.ifCond .ne 5, 3, 0, 0, 0)],
  [none, some (.iconst (-1), 1, 0, 0, 0), some (.ireturn, 1, 0, 0, 0), some (.aload_n 0, 1, 0, 0, 0), some (.getfield 65, 3, 9, 9, 549), none, none, some (.getfield 112, 3, 1, 4, 402), none, none, some (.iload_n 1, 1, 0, 0, 0), some (.iaload, 1, 0, 0, 0), some (.ifCond .eq 6, 3, 0, 0, 0), none, none, some (.bipush (-2), 2, 0, 0, 0)],
  [none, some (.ireturn, 1, 0, 0, 0), some (.aload_n 0, 1, 0, 0, 0), some (.getfield 58, 3, 9, 8, 548), none, none, some (.aload_n 0, 1, 0, 0, 0), some (.getfield 23, 3, 9, 3, 543), none, none, some (.aload_n 0, 1, 0, 0, 0), some (.getfield 65, 3, 9, 9, 549), none, none, some (.iload_n 1, 1, 0, 0, 0), some (.iload_n 2, 1, 0, 0, 0)],
  [some (.aload_n 0, 1, 0, 0, 0), some (.getfield 65, 3, 9, 9, 549), none, none, some (.getfield 133, 3, 1, 7, 412), none, none, some (.iload_n 1, 1, 0, 0, 0), some (.iaload, 1, 0, 0, 0), some (.invokevirtual 207, 3, 25, 0, 864), none, none, some (.iconst 1, 1, 0, 0, 0), some (.istore 4, 2, 0, 0, 0), none, some (.iconst 1, 1, 0, 0, 0)],
  [some (.istore 5, 2, 0, 0, 0), none, some (.iconst 0, 1, 0, 0, 0), some (.istore 6, 2, 0, 0, 0), none, some (.iload 6, 2, 0, 0, 0), none, some (.iload_n 2, 1, 0, 0, 0), some (.if_icmp .ge 34, 3, 0, 0, 0), none, none, some (.iload 4, 2, 0, 0, 0), none, some (.bipush 100, 2, 0, 0, 0), none, some (.aload_n 0, 1, 0, 0, 0)],
  [some (.getfield 58, 3, 9, 8, 548), none, none, some (.getfield 211, 3, 3, 0, 366), none, none, some (.iload 6, 2, 0, 0, 0), none, some (.iaload, 1, 0, 0, 0), some (.isub, 1, 0, 0, 0), some (.imul, 1, 0, 0, 0), some (.istore 4, 2, 0, 0, 0), none, some (.iload 5, 2, 0, 0, 0), none, some (.bipush 100, 2, 0, 0, 0)],
  [none, some (.imul, 1, 0, 0, 0), some (.istore 5, 2, 0, 0, 0), none, some (.iinc 6 1, 3, 0, 0, 0), none, none, some (.goto (-34), 3, 0, 0, 0), none, none, some (.iload 4, 2, 0, 0, 0), none, some (.iload 5, 2, 0, 0, 0), none, some (.invokestatic 214, 3, 131, 0, 873)],
  [none, some (.istore 6, 2, 0, 0, 0), none, some (.iload 6, 2, 0, 0, 0), none, some (.ifCond .ne 5, 3, 0, 0, 0), none, none, some (.iconst (-1), 1, 0, 0, 0), some (.ireturn, 1, 0, 0, 0), some (.iload_n 3, 1, 0, 0, 0), some (.ifCond .eq 11, 3, 0, 0, 0), none, none, some (.iload 5, 2, 0, 0, 0)],
  [some (.iload 6, 2, 0, 0, 0), none, some (.idiv, 1, 0, 0, 0), some (.goto 8, 3, 0, 0, 0), none, none, some (.iload 4, 2, 0, 0, 0), none, some (.iload 6, 2, 0, 0, 0), none, some (.idiv, 1, 0, 0, 0), some (.ireturn, 1, 0, 0, 0)]], 1, 3, 1, 9)
/-- FallMarket.mean(III)I -/
def jm_M94 : jm_M := (⟨"FallMarket", "mean", "(III)I"⟩, prog_1_method_15_code, 4, some .int, [[some (.aload_n 0, 1, 0, 0, 0), some (.iload_n 1, 1, 0, 0, 0), some (.invokevirtual 139, 3, 119, 0, 744), none, none, some (.ifCond .eq 22, 3, 0, 0, 0), none, none, some (.iload_n 2, 1, 0, 0, 0), some (.iconst 0, 1, 0, 0, 0), some (.bipush 9, 2, 0, 0, 0), none, some (.invokestatic 161, 3, 128, 0, 784), none, none, some (.ifCond .eq 12, 3, 0, 0, 0)],
  [none, none, some (.iload_n 3, 1, 0, 0, 0), some (.iconst 1, 1, 0, 0, 0), some (.iconst 4, 1, 0, 0, 0), some (.invokestatic 161, 3, 128, 0, 784), none, none, some (.ifCond .ne 5, 3, 0, 0, 0), none, none, some (.iconst (-1), 1, 0, 0, 0), some (.ireturn, 1, 0, 0, 0), some (.aload_n 0, 1, 0, 0, 0), some (.getfield 58, 3, 9, 8, 548)],
  [none, some (.aload_n 0, 1, 0, 0, 0), some (.getfield 23, 3, 9, 3, 543), none, none, some (.aload_n 0, 1, 0, 0, 0), some (.getfield 65, 3, 9, 9, 549), none, none, some (.iload_n 3, 1, 0, 0, 0), some (.invokevirtual 217, 3, 26, 0, 880), none, none, some (.aload_n 0, 1, 0, 0, 0), some (.iload_n 1, 1, 0, 0, 0), some (.iload_n 2, 1, 0, 0, 0)],
  [some (.invokevirtual 220, 3, 122, 0, 890), none, none, some (.iload_n 3, 1, 0, 0, 0), some (.invokestatic 224, 3, 29, 0, 899), none, none, some (.ireturn, 1, 0, 0, 0)]], 1, 3, 1, 9)
/-- FallMarket.stand(III)I -/
def jm_M95 : jm_M := (⟨"FallMarket", "stand", "(III)I"⟩, prog_1_method_16_code, 10, some .int, [[some (.aload_n 0, 1, 0, 0, 0), some (.iload_n 1, 1, 0, 0, 0), some (.invokevirtual 139, 3, 119, 0, 744), none, none, some (.ifCond .eq 21, 3, 0, 0, 0), none, none, some (.iload_n 2, 1, 0, 0, 0), some (.iconst 1, 1, 0, 0, 0), some (.iconst 4, 1, 0, 0, 0), some (.invokestatic 161, 3, 128, 0, 784), none, none, some (.ifCond .eq 12, 3, 0, 0, 0)],
  [none, some (.iload_n 3, 1, 0, 0, 0), some (.iconst 0, 1, 0, 0, 0), some (.iconst 1, 1, 0, 0, 0), some (.invokestatic 161, 3, 128, 0, 784), none, none, some (.ifCond .ne 5, 3, 0, 0, 0), none, none, some (.iconst (-1), 1, 0, 0, 0), some (.ireturn, 1, 0, 0, 0), some (.aload_n 0, 1, 0, 0, 0), some (.getfield 58, 3, 9, 8, 548)],
  [some (.aload_n 0, 1, 0, 0, 0), some (.getfield 23, 3, 9, 3, 543), none, none, some (.aload_n 0, 1, 0, 0, 0), some (.getfield 65, 3, 9, 9, 549), none, none, some (.iload_n 2, 1, 0, 0, 0), some (.invokevirtual 217, 3, 26, 0, 880), none, none, some (.iconst 0, 1, 0, 0, 0), some (.istore 4, 2, 0, 0, 0), none, some (.ldc2_w 228, 3, 18446744073709551615, 0, 906)],
  [none, none, some (.lstore 5, 2, 0, 0, 0), none, some (.iconst 0, 1, 0, 0, 0), some (.istore 7, 2, 0, 0, 0), none, some (.iload 7, 2, 0, 0, 0), none, some (.bipush 9, 2, 0, 0, 0), none, some (.if_icmp .gt 34, 3, 0, 0, 0), none, none, some (.aload_n 0, 1, 0, 0, 0), some (.iload_n 1, 1, 0, 0, 0)],
  [some (.iload 7, 2, 0, 0, 0), none, some (.invokevirtual 220, 3, 122, 0, 890), none, none, some (.lstore 8, 2, 0, 0, 0), none, some (.lload 8, 2, 0, 0, 0), none, some (.lload 5, 2, 0, 0, 0), none, some (.lcmp, 1, 0, 0, 0), some (.ifCond .le 11, 3, 0, 0, 0), none, none, some (.lload 8, 2, 0, 0, 0)],
  [none, some (.lstore 5, 2, 0, 0, 0), none, some (.iload 7, 2, 0, 0, 0), none, some (.istore 4, 2, 0, 0, 0), none, some (.iinc 7 1, 3, 0, 0, 0), none, none, some (.goto (-35), 3, 0, 0, 0), none, none, some (.iload_n 3, 1, 0, 0, 0), some (.ifCond .ne 8, 3, 0, 0, 0)],
  [none, some (.iload 4, 2, 0, 0, 0), none, some (.goto 9, 3, 0, 0, 0), none, none, some (.lload 5, 2, 0, 0, 0), none, some (.iload_n 2, 1, 0, 0, 0), some (.invokestatic 224, 3, 29, 0, 899), none, none, some (.ireturn, 1, 0, 0, 0)]], 1, 3, 1, 9)
/-- FallMarket.props(II)I -/
def jm_M96 : jm_M := (⟨"FallMarket", "props", "(II)I"⟩, prog_1_method_17_code, 11, some .int, [[some (.iload_n 1, 1, 0, 0, 0), some (.iconst 1, 1, 0, 0, 0), some (.iconst 3, 1, 0, 0, 0), some (.invokestatic 161, 3, 128, 0, 784), none, none, some (.ifCond .eq 12, 3, 0, 0, 0), none, none, some (.iload_n 2, 1, 0, 0, 0), some (.iconst 0, 1, 0, 0, 0), some (.iconst 1, 1, 0, 0, 0), some (.invokestatic 161, 3, 128, 0, 784), none, none, some (.ifCond .ne 5, 3, 0, 0, 0)],
  [none, none, some (.iconst (-1), 1, 0, 0, 0), some (.ireturn, 1, 0, 0, 0), some (.iconst 0, 1, 0, 0, 0), some (.istore_n 3, 1, 0, 0, 0), some (.lconst 0, 1, 0, 0, 0), some (.lstore 4, 2, 0, 0, 0), none, some (.iconst 0, 1, 0, 0, 0), some (.istore 6, 2, 0, 0, 0), none, some (.iload 6, 2, 0, 0, 0), none, some (.aload_n 0, 1, 0, 0, 0), some (.getfield 23, 3, 9, 3, 543)],
  [none, none, some (.getfield 183, 3, 5, 0, 148), none, none, some (.if_icmp .ge 91, 3, 0, 0, 0), none, none, some (.aload_n 0, 1, 0, 0, 0), some (.getfield 65, 3, 9, 9, 549), none, none, some (.getfield 112, 3, 1, 4, 402), none, none, some (.iload 6, 2, 0, 0, 0)],
  [none, some (.iaload, 1, 0, 0, 0), some (.ifCond .ne 72, 3, 0, 0, 0), none, none, some (.aload_n 0, 1, 0, 0, 0), some (.getfield 58, 3, 9, 8, 548), none, none, some (.aload_n 0, 1, 0, 0, 0), some (.getfield 23, 3, 9, 3, 543), none, none, some (.aload_n 0, 1, 0, 0, 0), some (.getfield 65, 3, 9, 9, 549)],
  [none, some (.iload 6, 2, 0, 0, 0), none, some (.iload_n 1, 1, 0, 0, 0), some (.iconst 0, 1, 0, 0, 0), some (.invokevirtual 230, 3, 28, 0, 911), none, none, some (.lstore 7, 2, 0, 0, 0), none, some (.aload_n 0, 1, 0, 0, 0), some (.getfield 58, 3, 9, 8, 548), none, none, some (.aload_n 0, 1, 0, 0, 0), some (.getfield 23, 3, 9, 3, 543)],
  [none, none, some (.aload_n 0, 1, 0, 0, 0), some (.getfield 65, 3, 9, 9, 549), none, none, some (.iload 6, 2, 0, 0, 0), none, some (.iload_n 1, 1, 0, 0, 0), some (.iconst 1, 1, 0, 0, 0), some (.invokevirtual 230, 3, 28, 0, 911), none, none, some (.lstore 9, 2, 0, 0, 0), none, some (.lload 9, 2, 0, 0, 0)],
  [none, some (.lload 7, 2, 0, 0, 0), none, some (.lcmp, 1, 0, 0, 0), some (.ifCond .le 10, 3, 0, 0, 0), none, none, some (.iload_n 3, 1, 0, 0, 0), some (.iconst 1, 1, 0, 0, 0), some (.iload 6, 2, 0, 0, 0), none, some (.ishl, 1, 0, 0, 0), some (.ior, 1, 0, 0, 0), some (.istore_n 3, 1, 0, 0, 0), some (.lload 4, 2, 0, 0, 0)],
  [some (.lload 7, 2, 0, 0, 0), none, some (.lload 9, 2, 0, 0, 0), none, some (.invokestatic 234, 3, 242, 0, 915), none, none, some (.ladd, 1, 0, 0, 0), some (.lstore 4, 2, 0, 0, 0), none, some (.iinc 6 1, 3, 0, 0, 0), none, none, some (.goto (-97), 3, 0, 0, 0)],
  [some (.iload_n 2, 1, 0, 0, 0), some (.ifCond .ne 12, 3, 0, 0, 0), none, none, some (.lload 4, 2, 0, 0, 0), none, some (.iload_n 1, 1, 0, 0, 0), some (.invokestatic 224, 3, 29, 0, 899), none, none, some (.goto 4, 3, 0, 0, 0), none, none, some (.iload_n 3, 1, 0, 0, 0), some (.ireturn, 1, 0, 0, 0)]], 1, 2, 1, 9)
/-- FallMarket.shakes(II)I -/
def jm_M97 : jm_M := (⟨"FallMarket", "shakes", "(II)I"⟩, prog_1_method_18_code, 4, some .int, [[some (.aload_n 0, 1, 0, 0, 0), some (.iload_n 1, 1, 0, 0, 0), some (.invokevirtual 108, 3, 118, 0, 736), none, none, some (.ifCond .eq 13, 3, 0, 0, 0), none, none, some (.iload_n 2, 1, 0, 0, 0), some (.iconst 0, 1, 0, 0, 0), some (.bipush 100, 2, 0, 0, 0), none, some (.invokestatic 161, 3, 128, 0, 784), none, none, some (.ifCond .ne 5, 3, 0, 0, 0)],
  [none, none, some (.iconst (-1), 1, 0, 0, 0), some (.ireturn, 1, 0, 0, 0), some (.aload_n 0, 1, 0, 0, 0), some (.getfield 65, 3, 9, 9, 549), none, none, some (.getfield 112, 3, 1, 4, 402), none, none, some (.iload_n 1, 1, 0, 0, 0), some (.iaload, 1, 0, 0, 0), some (.ifCond .eq 6, 3, 0, 0, 0)],
  [some (.bipush (-2), 2, 0, 0, 0), none, some (.ireturn, 1, 0, 0, 0), some (.aload_n 0, 1, 0, 0, 0), some (.iload_n 1, 1, 0, 0, 0), some (.invokevirtual 155, 3, 120, 0, 756), none, none, some (.iconst 0, 1, 0, 0, 0), some (.istore_n 3, 1, 0, 0, 0), some (.iload_n 3, 1, 0, 0, 0), some (.bipush 20, 2, 0, 0, 0), none, some (.if_icmp .gt 47, 3, 0, 0, 0)],
  [some (.aload_n 0, 1, 0, 0, 0), some (.getfield 42, 3, 9, 6, 546), none, none, some (.getfield 193, 3, 2, 0, 342), none, none, some (.iconst 5, 1, 0, 0, 0), some (.aload_n 0, 1, 0, 0, 0), some (.getfield 65, 3, 9, 9, 549), none, none, some (.getfield 136, 3, 1, 8, 417), none, none, some (.iload_n 1, 1, 0, 0, 0)],
  [some (.iaload, 1, 0, 0, 0), some (.iload_n 3, 1, 0, 0, 0), some (.iadd, 1, 0, 0, 0), some (.iastore, 1, 0, 0, 0), some (.aload_n 0, 1, 0, 0, 0), some (.getfield 42, 3, 9, 6, 546), none, none, some (.aload_n 0, 1, 0, 0, 0), some (.getfield 23, 3, 9, 3, 543), none, none, some (.iconst 2, 1, 0, 0, 0), some (.invokevirtual 158, 3, 21, 0, 779)],
  [some (.iload_n 2, 1, 0, 0, 0), some (.if_icmp .lt 5, 3, 0, 0, 0), none, none, some (.iload_n 3, 1, 0, 0, 0), some (.ireturn, 1, 0, 0, 0), some (.iinc 3 1, 3, 0, 0, 0), none, none, some (.goto (-47), 3, 0, 0, 0), none, none, some (.bipush (-2), 2, 0, 0, 0), none, some (.ireturn, 1, 0, 0, 0)]], 1, 2, 1, 9)
/-- FallMarket.passes(II)I -/
def jm_M98 : jm_M := (⟨"FallMarket", "passes", "(II)I"⟩, prog_1_method_19_code, 5, some .int, [[some (.aload_n 0, 1, 0, 0, 0), some (.iload_n 1, 1, 0, 0, 0), some (.invokevirtual 108, 3, 118, 0, 736), none, none, some (.ifCond .eq 13, 3, 0, 0, 0), none, none, some (.iload_n 2, 1, 0, 0, 0), some (.iconst 0, 1, 0, 0, 0), some (.bipush 20, 2, 0, 0, 0), none, some (.invokestatic 161, 3, 128, 0, 784), none, none, some (.ifCond .ne 5, 3, 0, 0, 0)],
  [none, none, some (.iconst (-1), 1, 0, 0, 0), some (.ireturn, 1, 0, 0, 0), some (.aload_n 0, 1, 0, 0, 0), some (.getfield 65, 3, 9, 9, 549), none, none, some (.getfield 112, 3, 1, 4, 402), none, none, some (.iload_n 1, 1, 0, 0, 0), some (.iaload, 1, 0, 0, 0), some (.ifCond .eq 6, 3, 0, 0, 0)],
  [some (.bipush (-2), 2, 0, 0, 0), none, some (.ireturn, 1, 0, 0, 0), some (.aload_n 0, 1, 0, 0, 0), some (.iload_n 1, 1, 0, 0, 0), some (.invokevirtual 155, 3, 120, 0, 756), none, none, some (.aload_n 0, 1, 0, 0, 0), some (.getfield 42, 3, 9, 6, 546), none, none, some (.getfield 193, 3, 2, 0, 342), none, none, some (.iconst 5, 1, 0, 0, 0)],
  [some (.iload_n 2, 1, 0, 0, 0), some (.iastore, 1, 0, 0, 0), some (.aload_n 0, 1, 0, 0, 0), some (.getfield 42, 3, 9, 6, 546), none, none, some (.aload_n 0, 1, 0, 0, 0), some (.getfield 23, 3, 9, 3, 543), none, none, some (.iconst 2, 1, 0, 0, 0), some (.invokevirtual 158, 3, 21, 0, 779), none, none, some (.istore_n 3, 1, 0, 0, 0), some (.aload_n 0, 1, 0, 0, 0)],
  [some (.getfield 42, 3, 9, 6, 546), none, none, some (.getfield 193, 3, 2, 0, 342), none, none, some (.iconst 5, 1, 0, 0, 0), some (.iconst 0, 1, 0, 0, 0), some (.iastore, 1, 0, 0, 0), some (.iconst 0, 1, 0, 0, 0), some (.istore 4, 2, 0, 0, 0), none, some (.iload 4, 2, 0, 0, 0), none, some (.bipush 9, 2, 0, 0, 0)],
  [some (.if_icmp .gt 39, 3, 0, 0, 0), none, none, some (.aload_n 0, 1, 0, 0, 0), some (.getfield 42, 3, 9, 6, 546), none, none, some (.getfield 193, 3, 2, 0, 342), none, none, some (.iconst 3, 1, 0, 0, 0), some (.iload 4, 2, 0, 0, 0), none, some (.iastore, 1, 0, 0, 0), some (.aload_n 0, 1, 0, 0, 0), some (.getfield 42, 3, 9, 6, 546)],
  [none, none, some (.aload_n 0, 1, 0, 0, 0), some (.getfield 23, 3, 9, 3, 543), none, none, some (.iconst 2, 1, 0, 0, 0), some (.invokevirtual 158, 3, 21, 0, 779), none, none, some (.iload_n 3, 1, 0, 0, 0), some (.if_icmp .lt 6, 3, 0, 0, 0), none, none, some (.iload 4, 2, 0, 0, 0)],
  [some (.ireturn, 1, 0, 0, 0), some (.iinc 4 1, 3, 0, 0, 0), none, none, some (.goto (-40), 3, 0, 0, 0), none, none, some (.bipush (-2), 2, 0, 0, 0), none, some (.ireturn, 1, 0, 0, 0)]], 1, 2, 1, 9)
/-- FallMarket.windIn(I)I -/
def jm_M99 : jm_M := (⟨"FallMarket", "windIn", "(I)I"⟩, prog_1_method_20_code, 2, some .int, [[some (.iload_n 1, 1, 0, 0, 0), some (.iconst 0, 1, 0, 0, 0), some (.bipush 60, 2, 0, 0, 0), none, some (.invokestatic 161, 3, 128, 0, 784), none, none, some (.ifCond .ne 5, 3, 0, 0, 0), none, none, some (.iconst (-1), 1, 0, 0, 0), some (.ireturn, 1, 0, 0, 0), some (.aload_n 0, 1, 0, 0, 0), some (.getfield 42, 3, 9, 6, 546)],
  [some (.aload_n 0, 1, 0, 0, 0), some (.getfield 23, 3, 9, 3, 543), none, none, some (.aload_n 0, 1, 0, 0, 0), some (.getfield 65, 3, 9, 9, 549), none, none, some (.getfield 180, 3, 1, 0, 389), none, none, some (.iload_n 1, 1, 0, 0, 0), some (.iadd, 1, 0, 0, 0), some (.aload_n 0, 1, 0, 0, 0), some (.getfield 65, 3, 9, 9, 549)],
  [none, some (.iconst 0, 1, 0, 0, 0), some (.aload_n 0, 1, 0, 0, 0), some (.getfield 23, 3, 9, 3, 543), none, none, some (.getfield 183, 3, 5, 0, 148), none, none, some (.invokevirtual 186, 3, 12, 0, 760), none, none, some (.invokevirtual 189, 3, 17, 0, 774), none, none, some (.aload_n 0, 1, 0, 0, 0)],
  [some (.getfield 42, 3, 9, 6, 546), none, none, some (.getfield 193, 3, 2, 0, 342), none, none, some (.iconst 3, 1, 0, 0, 0), some (.iaload, 1, 0, 0, 0), some (.ireturn, 1, 0, 0, 0)]], 1, 1, 1, 9)
/-- FallMarket.next(Z)I -/
def jm_M100 : jm_M := (⟨"FallMarket", "next", "(Z)I"⟩, prog_1_method_21_code, 6, some .int, [[some (.bipush (-2), 2, 0, 0, 0), none, some (.istore_n 2, 1, 0, 0, 0), some (.bipush (-2), 2, 0, 0, 0), none, some (.istore_n 3, 1, 0, 0, 0), some (.iconst 0, 1, 0, 0, 0), some (.istore 4, 2, 0, 0, 0), none, some (.iload 4, 2, 0, 0, 0), none, some (.aload_n 0, 1, 0, 0, 0), some (.getfield 23, 3, 9, 3, 543), none, none, some (.getfield 183, 3, 5, 0, 148)],
  [none, none, some (.if_icmp .ge 54, 3, 0, 0, 0), none, none, some (.aload_n 0, 1, 0, 0, 0), some (.getfield 65, 3, 9, 9, 549), none, none, some (.getfield 112, 3, 1, 4, 402), none, none, some (.iload 4, 2, 0, 0, 0), none, some (.iaload, 1, 0, 0, 0), some (.ifCond .ne 35, 3, 0, 0, 0)],
  [none, none, some (.aload_n 0, 1, 0, 0, 0), some (.iload 4, 2, 0, 0, 0), none, some (.invokevirtual 155, 3, 120, 0, 756), none, none, some (.aload_n 0, 1, 0, 0, 0), some (.getfield 42, 3, 9, 6, 546), none, none, some (.aload_n 0, 1, 0, 0, 0), some (.getfield 23, 3, 9, 3, 543)],
  [some (.iconst 2, 1, 0, 0, 0), some (.invokevirtual 158, 3, 21, 0, 779), none, none, some (.istore 5, 2, 0, 0, 0), none, some (.iload 5, 2, 0, 0, 0), none, some (.iload_n 3, 1, 0, 0, 0), some (.if_icmp .le 9, 3, 0, 0, 0), none, none, some (.iload 5, 2, 0, 0, 0), none, some (.istore_n 3, 1, 0, 0, 0), some (.iload 4, 2, 0, 0, 0)],
  [none, some (.istore_n 2, 1, 0, 0, 0), some (.iinc 4 1, 3, 0, 0, 0), none, none, some (.goto (-60), 3, 0, 0, 0), none, none, some (.iload_n 1, 1, 0, 0, 0), some (.ifCond .eq 7, 3, 0, 0, 0), none, none, some (.iload_n 3, 1, 0, 0, 0), some (.goto 4, 3, 0, 0, 0)],
  [some (.iload_n 2, 1, 0, 0, 0), some (.ireturn, 1, 0, 0, 0)]], 1, 1, 1, 9)
/-- FallMarket.catcher(I)I -/
def jm_M101 : jm_M := (⟨"FallMarket", "catcher", "(I)I"⟩, prog_1_method_22_code, 2, some .int, [[some (.aload_n 0, 1, 0, 0, 0), some (.iload_n 1, 1, 0, 0, 0), some (.invokevirtual 108, 3, 118, 0, 736), none, none, some (.ifCond .ne 5, 3, 0, 0, 0), none, none, some (.iconst (-1), 1, 0, 0, 0), some (.ireturn, 1, 0, 0, 0), some (.aload_n 0, 1, 0, 0, 0), some (.iload_n 1, 1, 0, 0, 0), some (.invokevirtual 155, 3, 120, 0, 756), none, none, some (.aload_n 0, 1, 0, 0, 0)],
  [some (.getfield 42, 3, 9, 6, 546), none, none, some (.getfield 193, 3, 2, 0, 342), none, none, some (.bipush 7, 2, 0, 0, 0), none, some (.iconst 0, 1, 0, 0, 0), some (.iastore, 1, 0, 0, 0), some (.aload_n 0, 1, 0, 0, 0), some (.getfield 65, 3, 9, 9, 549), none, none, some (.aload_n 0, 1, 0, 0, 0), some (.getfield 23, 3, 9, 3, 543)],
  [none, none, some (.aload_n 0, 1, 0, 0, 0), some (.getfield 23, 3, 9, 3, 543), none, none, some (.getfield 118, 3, 5, 1, 153), none, none, some (.iload_n 1, 1, 0, 0, 0), some (.iaload, 1, 0, 0, 0), some (.aload_n 0, 1, 0, 0, 0), some (.getfield 42, 3, 9, 6, 546), none, none, some (.aload_n 0, 1, 0, 0, 0)],
  [some (.getfield 23, 3, 9, 3, 543), none, none, some (.iconst 3, 1, 0, 0, 0), some (.invokevirtual 158, 3, 21, 0, 779), none, none, some (.invokevirtual 240, 3, 13, 0, 898), none, none, some (.ireturn, 1, 0, 0, 0)]], 1, 1, 1, 9)
/-- FallMarket.then(III)I -/
def jm_M102 : jm_M := (⟨"FallMarket", "then", "(III)I"⟩, prog_1_method_23_code, 4, some .int, [[some (.aload_n 0, 1, 0, 0, 0), some (.iload_n 1, 1, 0, 0, 0), some (.invokevirtual 108, 3, 118, 0, 736), none, none, some (.ifCond .eq 22, 3, 0, 0, 0), none, none, some (.iload_n 2, 1, 0, 0, 0), some (.iconst 0, 1, 0, 0, 0), some (.bipush 60, 2, 0, 0, 0), none, some (.invokestatic 161, 3, 128, 0, 784), none, none, some (.ifCond .eq 12, 3, 0, 0, 0)],
  [none, none, some (.iload_n 3, 1, 0, 0, 0), some (.iconst 0, 1, 0, 0, 0), some (.iconst 1, 1, 0, 0, 0), some (.invokestatic 161, 3, 128, 0, 784), none, none, some (.ifCond .ne 5, 3, 0, 0, 0), none, none, some (.iconst (-1), 1, 0, 0, 0), some (.ireturn, 1, 0, 0, 0), some (.aload_n 0, 1, 0, 0, 0), some (.iload_n 2, 1, 0, 0, 0), some (.invokevirtual 244, 3, 121, 0, 942)],
  [none, none, some (.iload_n 3, 1, 0, 0, 0), some (.ifCond .ne 15, 3, 0, 0, 0), none, none, some (.aload_n 0, 1, 0, 0, 0), some (.getfield 69, 3, 9, 10, 550), none, none, some (.getfield 112, 3, 1, 4, 402), none, none, some (.iload_n 1, 1, 0, 0, 0), some (.iaload, 1, 0, 0, 0), some (.goto 12, 3, 0, 0, 0)],
  [none, none, some (.aload_n 0, 1, 0, 0, 0), some (.getfield 69, 3, 9, 10, 550), none, none, some (.getfield 127, 3, 1, 5, 404), none, none, some (.iload_n 1, 1, 0, 0, 0), some (.iaload, 1, 0, 0, 0), some (.ireturn, 1, 0, 0, 0)]], 1, 3, 1, 9)
/-- FallMarket.paid(II)I -/
def jm_M103 : jm_M := (⟨"FallMarket", "paid", "(II)I"⟩, prog_1_method_24_code, 3, some .int, [[some (.aload_n 0, 1, 0, 0, 0), some (.iload_n 1, 1, 0, 0, 0), some (.invokevirtual 139, 3, 119, 0, 744), none, none, some (.ifCond .eq 13, 3, 0, 0, 0), none, none, some (.iload_n 2, 1, 0, 0, 0), some (.iconst 0, 1, 0, 0, 0), some (.bipush 60, 2, 0, 0, 0), none, some (.invokestatic 161, 3, 128, 0, 784), none, none, some (.ifCond .ne 5, 3, 0, 0, 0)],
  [none, none, some (.iconst (-1), 1, 0, 0, 0), some (.ireturn, 1, 0, 0, 0), some (.aload_n 0, 1, 0, 0, 0), some (.iload_n 2, 1, 0, 0, 0), some (.invokevirtual 244, 3, 121, 0, 942), none, none, some (.aload_n 0, 1, 0, 0, 0), some (.getfield 65, 3, 9, 9, 549), none, none, some (.getfield 148, 3, 1, 11, 424)],
  [some (.iload_n 1, 1, 0, 0, 0), some (.iaload, 1, 0, 0, 0), some (.aload_n 0, 1, 0, 0, 0), some (.getfield 69, 3, 9, 10, 550), none, none, some (.getfield 148, 3, 1, 11, 424), none, none, some (.iload_n 1, 1, 0, 0, 0), some (.iaload, 1, 0, 0, 0), some (.isub, 1, 0, 0, 0), some (.ireturn, 1, 0, 0, 0)]], 1, 2, 1, 9)
/-- FallMarket.much(II)I -/
def jm_M104 : jm_M := (⟨"FallMarket", "much", "(II)I"⟩, prog_1_method_25_code, 3, some .int, [[some (.iload_n 1, 1, 0, 0, 0), some (.iconst 0, 1, 0, 0, 0), some (.bipush 60, 2, 0, 0, 0), none, some (.invokestatic 161, 3, 128, 0, 784), none, none, some (.ifCond .eq 12, 3, 0, 0, 0), none, none, some (.iload_n 2, 1, 0, 0, 0), some (.iconst 0, 1, 0, 0, 0), some (.iconst 3, 1, 0, 0, 0), some (.invokestatic 161, 3, 128, 0, 784)],
  [some (.ifCond .ne 5, 3, 0, 0, 0), none, none, some (.iconst (-1), 1, 0, 0, 0), some (.ireturn, 1, 0, 0, 0), some (.aload_n 0, 1, 0, 0, 0), some (.iload_n 1, 1, 0, 0, 0), some (.invokevirtual 244, 3, 121, 0, 942), none, none, some (.aload_n 0, 1, 0, 0, 0), some (.getfield 69, 3, 9, 10, 550), none, none, some (.iload_n 2, 1, 0, 0, 0), some (.aload_n 0, 1, 0, 0, 0)],
  [some (.getfield 23, 3, 9, 3, 543), none, none, some (.getfield 183, 3, 5, 0, 148), none, none, some (.invokevirtual 186, 3, 12, 0, 760), none, none, some (.ireturn, 1, 0, 0, 0)]], 1, 2, 1, 9)
/-- FallMarket.last(I)I -/
def jm_M105 : jm_M := (⟨"FallMarket", "last", "(I)I"⟩, prog_1_method_26_code, 5, some .int, [[some (.iload_n 1, 1, 0, 0, 0), some (.iconst 0, 1, 0, 0, 0), some (.iconst 1, 1, 0, 0, 0), some (.invokestatic 161, 3, 128, 0, 784), none, none, some (.ifCond .ne 5, 3, 0, 0, 0), none, none, some (.iconst (-1), 1, 0, 0, 0), some (.ireturn, 1, 0, 0, 0), some (.aload_n 0, 1, 0, 0, 0), some (.getfield 69, 3, 9, 10, 550), none, none, some (.aload_n 0, 1, 0, 0, 0)],
  [some (.getfield 65, 3, 9, 9, 549), none, none, some (.invokevirtual 247, 3, 8, 0, 894), none, none, some (.aload_n 0, 1, 0, 0, 0), some (.getfield 69, 3, 9, 10, 550), none, none, some (.iconst 0, 1, 0, 0, 0), some (.aload_n 0, 1, 0, 0, 0), some (.getfield 23, 3, 9, 3, 543), none, none, some (.getfield 183, 3, 5, 0, 148)],
  [none, none, some (.invokevirtual 250, 3, 11, 0, 958), none, none, some (.istore_n 2, 1, 0, 0, 0), some (.iconst 1, 1, 0, 0, 0), some (.istore_n 3, 1, 0, 0, 0), some (.iload_n 3, 1, 0, 0, 0), some (.sipush 200, 3, 0, 0, 0), none, none, some (.if_icmp .gt 73, 3, 0, 0, 0), none, none, some (.iload_n 2, 1, 0, 0, 0)],
  [some (.ifCond .eq 69, 3, 0, 0, 0), none, none, some (.aload_n 0, 1, 0, 0, 0), some (.getfield 51, 3, 9, 7, 547), none, none, some (.aload_n 0, 1, 0, 0, 0), some (.getfield 23, 3, 9, 3, 543), none, none, some (.aload_n 0, 1, 0, 0, 0), some (.getfield 69, 3, 9, 10, 550), none, none, some (.aload_n 0, 1, 0, 0, 0)],
  [some (.getfield 23, 3, 9, 3, 543), none, none, some (.getfield 169, 3, 5, 11, 183), none, none, some (.invokevirtual 199, 3, 3, 0, 813), none, none, some (.aload_n 0, 1, 0, 0, 0), some (.getfield 69, 3, 9, 10, 550), none, none, some (.iconst 0, 1, 0, 0, 0), some (.aload_n 0, 1, 0, 0, 0), some (.getfield 23, 3, 9, 3, 543)],
  [none, none, some (.getfield 183, 3, 5, 0, 148), none, none, some (.invokevirtual 250, 3, 11, 0, 958), none, none, some (.istore 4, 2, 0, 0, 0), none, some (.iload 4, 2, 0, 0, 0), none, some (.ifCond .ne 16, 3, 0, 0, 0), none, none, some (.iload_n 1, 1, 0, 0, 0)],
  [some (.ifCond .ne 10, 3, 0, 0, 0), none, none, some (.iload_n 2, 1, 0, 0, 0), some (.invokestatic 253, 3, 130, 0, 959), none, none, some (.goto 4, 3, 0, 0, 0), none, none, some (.iload_n 3, 1, 0, 0, 0), some (.ireturn, 1, 0, 0, 0), some (.iload 4, 2, 0, 0, 0), none, some (.istore_n 2, 1, 0, 0, 0), some (.iinc 3 1, 3, 0, 0, 0)],
  [none, none, some (.goto (-74), 3, 0, 0, 0), none, none, some (.bipush (-2), 2, 0, 0, 0), none, some (.ireturn, 1, 0, 0, 0)]], 1, 1, 1, 9)
/-- FallMarket.asleep()I -/
def jm_M106 : jm_M := (⟨"FallMarket", "asleep", "()I"⟩, prog_1_method_27_code, 3, some .int, [[some (.aload_n 0, 1, 0, 0, 0), some (.getfield 69, 3, 9, 10, 550), none, none, some (.aload_n 0, 1, 0, 0, 0), some (.getfield 65, 3, 9, 9, 549), none, none, some (.invokevirtual 247, 3, 8, 0, 894), none, none, some (.iconst 0, 1, 0, 0, 0), some (.istore_n 1, 1, 0, 0, 0), some (.iload_n 1, 1, 0, 0, 0), some (.sipush 200, 3, 0, 0, 0)],
  [none, some (.if_icmp .gt 68, 3, 0, 0, 0), none, none, some (.aload_n 0, 1, 0, 0, 0), some (.getfield 69, 3, 9, 10, 550), none, none, some (.iconst 2, 1, 0, 0, 0), some (.aload_n 0, 1, 0, 0, 0), some (.getfield 23, 3, 9, 3, 543), none, none, some (.getfield 183, 3, 5, 0, 148)],
  [some (.invokevirtual 186, 3, 12, 0, 760), none, none, some (.istore_n 2, 1, 0, 0, 0), some (.aload_n 0, 1, 0, 0, 0), some (.getfield 51, 3, 9, 7, 547), none, none, some (.aload_n 0, 1, 0, 0, 0), some (.getfield 23, 3, 9, 3, 543), none, none, some (.aload_n 0, 1, 0, 0, 0), some (.getfield 69, 3, 9, 10, 550)],
  [some (.aload_n 0, 1, 0, 0, 0), some (.getfield 23, 3, 9, 3, 543), none, none, some (.getfield 169, 3, 5, 11, 183), none, none, some (.invokevirtual 199, 3, 3, 0, 813), none, none, some (.aload_n 0, 1, 0, 0, 0), some (.getfield 69, 3, 9, 10, 550), none, none, some (.iconst 2, 1, 0, 0, 0), some (.aload_n 0, 1, 0, 0, 0)],
  [some (.getfield 23, 3, 9, 3, 543), none, none, some (.getfield 183, 3, 5, 0, 148), none, none, some (.invokevirtual 186, 3, 12, 0, 760), none, none, some (.iload_n 2, 1, 0, 0, 0), some (.if_icmp .ne 5, 3, 0, 0, 0), none, none, some (.iload_n 1, 1, 0, 0, 0), some (.ireturn, 1, 0, 0, 0), some (.iinc 1 1, 3, 0, 0, 0)],
  [none, none, some (.goto (-69), 3, 0, 0, 0), none, none, some (.bipush (-2), 2, 0, 0, 0), none, some (.ireturn, 1, 0, 0, 0)]], 1, 0, 1, 9)
/-- FallMarket.year(IIII)I -/
def jm_M107 : jm_M := (⟨"FallMarket", "year", "(IIII)I"⟩, prog_1_method_28_code, 8, some .int, [[some (.aload_n 0, 1, 0, 0, 0), some (.iload_n 1, 1, 0, 0, 0), some (.invokevirtual 139, 3, 119, 0, 744), none, none, some (.ifCond .eq 32, 3, 0, 0, 0), none, none, some (.aload_n 0, 1, 0, 0, 0), some (.iload_n 2, 1, 0, 0, 0), some (.invokevirtual 108, 3, 118, 0, 736), none, none, some (.ifCond .eq 24, 3, 0, 0, 0)],
  [some (.iload_n 3, 1, 0, 0, 0), some (.iconst 0, 1, 0, 0, 0), some (.bipush 60, 2, 0, 0, 0), none, some (.invokestatic 161, 3, 128, 0, 784), none, none, some (.ifCond .eq 14, 3, 0, 0, 0), none, none, some (.iload 4, 2, 0, 0, 0), none, some (.iconst 1, 1, 0, 0, 0), some (.bipush 20, 2, 0, 0, 0), none, some (.invokestatic 161, 3, 128, 0, 784)],
  [none, none, some (.ifCond .ne 5, 3, 0, 0, 0), none, none, some (.iconst (-1), 1, 0, 0, 0), some (.ireturn, 1, 0, 0, 0), some (.iconst 0, 1, 0, 0, 0), some (.istore 5, 2, 0, 0, 0), none, some (.iconst 0, 1, 0, 0, 0), some (.istore 6, 2, 0, 0, 0), none, some (.iload 6, 2, 0, 0, 0), none, some (.iload 4, 2, 0, 0, 0)],
  [none, some (.if_icmp .ge 89, 3, 0, 0, 0), none, none, some (.aload_n 0, 1, 0, 0, 0), some (.getfield 69, 3, 9, 10, 550), none, none, some (.aload_n 0, 1, 0, 0, 0), some (.getfield 65, 3, 9, 9, 549), none, none, some (.invokevirtual 247, 3, 8, 0, 894), none, none, some (.iconst 0, 1, 0, 0, 0)],
  [some (.istore 7, 2, 0, 0, 0), none, some (.iload 7, 2, 0, 0, 0), none, some (.iload_n 3, 1, 0, 0, 0), some (.if_icmp .ge 47, 3, 0, 0, 0), none, none, some (.aload_n 0, 1, 0, 0, 0), some (.getfield 69, 3, 9, 10, 550), none, none, some (.getfield 112, 3, 1, 4, 402), none, none, some (.iload_n 2, 1, 0, 0, 0)],
  [some (.iaload, 1, 0, 0, 0), some (.iconst 1, 1, 0, 0, 0), some (.if_icmp .gt 34, 3, 0, 0, 0), none, none, some (.aload_n 0, 1, 0, 0, 0), some (.getfield 51, 3, 9, 7, 547), none, none, some (.aload_n 0, 1, 0, 0, 0), some (.getfield 23, 3, 9, 3, 543), none, none, some (.aload_n 0, 1, 0, 0, 0), some (.getfield 69, 3, 9, 10, 550)],
  [none, some (.aload_n 0, 1, 0, 0, 0), some (.getfield 23, 3, 9, 3, 543), none, none, some (.getfield 169, 3, 5, 11, 183), none, none, some (.iload 6, 2, 0, 0, 0), none, some (.iadd, 1, 0, 0, 0), some (.invokevirtual 199, 3, 3, 0, 813), none, none, some (.iinc 7 1, 3, 0, 0, 0)],
  [none, some (.goto (-47), 3, 0, 0, 0), none, none, some (.aload_n 0, 1, 0, 0, 0), some (.getfield 69, 3, 9, 10, 550), none, none, some (.getfield 127, 3, 1, 5, 404), none, none, some (.iload_n 2, 1, 0, 0, 0), some (.iaload, 1, 0, 0, 0), some (.iload_n 1, 1, 0, 0, 0), some (.if_icmp .ne 6, 3, 0, 0, 0)],
  [none, some (.iinc 5 1, 3, 0, 0, 0), none, none, some (.iinc 6 1, 3, 0, 0, 0), none, none, some (.goto (-90), 3, 0, 0, 0), none, none, some (.iload 5, 2, 0, 0, 0), none, some (.ireturn, 1, 0, 0, 0)]], 1, 4, 1, 9)
/-- FallMarket.tell(II)I -/
def jm_M108 : jm_M := (⟨"FallMarket", "tell", "(II)I"⟩, prog_1_method_29_code, 3, some .int, [[some (.iload_n 1, 1, 0, 0, 0), some (.iconst 1, 1, 0, 0, 0), some (.bipush 9, 2, 0, 0, 0), none, some (.invokestatic 161, 3, 128, 0, 784), none, none, some (.ifCond .eq 13, 3, 0, 0, 0), none, none, some (.iload_n 2, 1, 0, 0, 0), some (.iconst 0, 1, 0, 0, 0), some (.bipush 9, 2, 0, 0, 0), none, some (.invokestatic 161, 3, 128, 0, 784)],
  [none, some (.ifCond .ne 5, 3, 0, 0, 0), none, none, some (.iconst (-1), 1, 0, 0, 0), some (.ireturn, 1, 0, 0, 0), some (.aload_n 0, 1, 0, 0, 0), some (.getfield 90, 3, 9, 14, 554), none, none, some (.iload_n 1, 1, 0, 0, 0), some (.iload_n 2, 1, 0, 0, 0), some (.invokevirtual 256, 3, 69, 0, 974), none, none, some (.ireturn, 1, 0, 0, 0)]], 1, 2, 1, 9)
/-- FallMarket.forget()I -/
def jm_M109 : jm_M := (⟨"FallMarket", "forget", "()I"⟩, prog_1_method_30_code, 2, some .int, [[some (.aload_n 0, 1, 0, 0, 0), some (.getfield 90, 3, 9, 14, 554), none, none, some (.getfield 259, 3, 7, 2, 476), none, none, some (.istore_n 1, 1, 0, 0, 0), some (.aload_n 0, 1, 0, 0, 0), some (.getfield 90, 3, 9, 14, 554), none, none, some (.iconst 0, 1, 0, 0, 0), some (.putfield 259, 3, 7, 2, 476)],
  [some (.iload_n 1, 1, 0, 0, 0), some (.ireturn, 1, 0, 0, 0)]], 1, 0, 1, 9)
/-- FallMarket.rows(I)I -/
def jm_M110 : jm_M := (⟨"FallMarket", "rows", "(I)I"⟩, prog_1_method_31_code, 2, some .int, [[some (.iload_n 1, 1, 0, 0, 0), some (.iconst 0, 1, 0, 0, 0), some (.aload_n 0, 1, 0, 0, 0), some (.getfield 90, 3, 9, 14, 554), none, none, some (.getfield 259, 3, 7, 2, 476), none, none, some (.invokestatic 161, 3, 128, 0, 784), none, none, some (.ifCond .eq 18, 3, 0, 0, 0), none, none, some (.aload_n 0, 1, 0, 0, 0)],
  [some (.getfield 90, 3, 9, 14, 554), none, none, some (.aload_n 0, 1, 0, 0, 0), some (.getfield 23, 3, 9, 3, 543), none, none, some (.iload_n 1, 1, 0, 0, 0), some (.invokevirtual 262, 3, 70, 0, 986), none, none, some (.goto 4, 3, 0, 0, 0), none, none, some (.iconst (-1), 1, 0, 0, 0), some (.ireturn, 1, 0, 0, 0)]], 1, 1, 1, 9)
/-- FallMarket.sure(II)I -/
def jm_M111 : jm_M := (⟨"FallMarket", "sure", "(II)I"⟩, prog_1_method_32_code, 4, some .int, [[some (.iload_n 1, 1, 0, 0, 0), some (.iconst 0, 1, 0, 0, 0), some (.aload_n 0, 1, 0, 0, 0), some (.getfield 90, 3, 9, 14, 554), none, none, some (.getfield 259, 3, 7, 2, 476), none, none, some (.invokestatic 161, 3, 128, 0, 784), none, none, some (.ifCond .eq 14, 3, 0, 0, 0), none, none, some (.iload_n 2, 1, 0, 0, 0)],
  [some (.iconst 0, 1, 0, 0, 0), some (.iload_n 1, 1, 0, 0, 0), some (.iconst 1, 1, 0, 0, 0), some (.isub, 1, 0, 0, 0), some (.invokestatic 161, 3, 128, 0, 784), none, none, some (.ifCond .ne 5, 3, 0, 0, 0), none, none, some (.iconst (-1), 1, 0, 0, 0), some (.ireturn, 1, 0, 0, 0), some (.aload_n 0, 1, 0, 0, 0), some (.getfield 90, 3, 9, 14, 554)],
  [some (.aload_n 0, 1, 0, 0, 0), some (.getfield 23, 3, 9, 3, 543), none, none, some (.iload_n 1, 1, 0, 0, 0), some (.invokevirtual 262, 3, 70, 0, 986), none, none, some (.ifCond .le 23, 3, 0, 0, 0), none, none, some (.aload_n 0, 1, 0, 0, 0), some (.getfield 90, 3, 9, 14, 554), none, none, some (.aload_n 0, 1, 0, 0, 0)],
  [some (.getfield 23, 3, 9, 3, 543), none, none, some (.iload_n 2, 1, 0, 0, 0), some (.invokevirtual 265, 3, 71, 0, 1006), none, none, some (.iconst 1, 1, 0, 0, 0), some (.if_icmp .ne 7, 3, 0, 0, 0), none, none, some (.iconst 1, 1, 0, 0, 0), some (.goto 4, 3, 0, 0, 0), none, none, some (.iconst 0, 1, 0, 0, 0)],
  [some (.istore_n 3, 1, 0, 0, 0), some (.iload_n 3, 1, 0, 0, 0), some (.ifCond .eq 18, 3, 0, 0, 0), none, none, some (.aload_n 0, 1, 0, 0, 0), some (.getfield 90, 3, 9, 14, 554), none, none, some (.aload_n 0, 1, 0, 0, 0), some (.getfield 23, 3, 9, 3, 543), none, none, some (.iload_n 2, 1, 0, 0, 0), some (.invokevirtual 268, 3, 72, 0, 1007)],
  [none, some (.goto 5, 3, 0, 0, 0), none, none, some (.bipush (-2), 2, 0, 0, 0), none, some (.ireturn, 1, 0, 0, 0)]], 1, 2, 1, 9)
end
