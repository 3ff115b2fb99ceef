/-! ===== all that is seen and goes on: what is taped, the text, the ground, the grounds before, held ones, what is told ===== -/
abbrev fG : Type := sg × tX × gS × List gS × (Nat → gS) × (Nat → Int32 × Int32)
def bX (s : Nat) : Nat := if s < 2 then 3 else 18
theorem bX_or (s : Nat) : bX s = 3 ∨ bX s = 18 := by
  unfold bX
  split
  · exact Or.inl rfl
  · exact Or.inr rfl
def tdC (n : Int) (W : Nat → Int32 × Int32) (a b : List Int32) : Prop := ∀ i : Nat, (i : Int) < n → a.getD i 0 = (W i).1 ∧ b.getD i 0 = (W i).2
/-- a class whose text's cells are in shape s -/
noncomputable def xZ (s : Nat) (σ : fG) (F : Nat → sy_d) : Prop := (jx_ok F ∧ sy_al F 42 = wls ∧ ox F = σ.1) ∧ xC (bX s) σ.2.1 F ∧ gC 50 (nfS σ.2.1) (nbS σ.2.1) F σ.2.2.1 ∧ trC (nfS σ.2.1) (nbS σ.2.1) F σ.2.2.2.1 ∧ hlC (nfS σ.2.1) (nbS σ.2.1) F σ.2.2.2.2.1 ∧ tdC σ.1.2.2.2.1 σ.2.2.2.2.2 (sy_ai F 80) (sy_ai F 81) ∧ rstC (bX s) σ.2.1 F
noncomputable def mZ (σ : fG) (F : Nat → sy_d) : Prop := (jm_rpn F ∧ sy_al F 29 = wls ∧ om F = σ.1) ∧ cR σ.2.1 F ∧ gNw σ.2.1 F σ.2.2.1 ∧ hiR (nfS σ.2.1) (nbS σ.2.1) F σ.2.2.2.1 ∧ hrR (nfS σ.2.1) (nbS σ.2.1) F σ.2.2.2.2.1 ∧ tdC σ.1.2.2.2.1 σ.2.2.2.2.2 (sy_ai F 63) (sy_ai F 64)
def okG (T : tX) (g : gS) : Prop := okS T g ∧ ∀ f, f < nfS T → g 5 f = 0 ∨ g 5 f = 1
def okZ (σ : fG) : Prop := okG σ.2.1 σ.2.2.1 ∧ (∀ u, u ∈ σ.2.2.2.1 → okG σ.2.1 u) ∧ ∀ k, k < 3 → σ.1.2.2.2.2 k ≠ 0 → okG σ.2.1 (σ.2.2.2.2.1 k)
/-! what each call makes of it, and answers -/
noncomputable def t_feed (a b c d e : Int32) (σ : fG) : fG := (s_feed a b c d e σ.1, σ.2)
noncomputable def t_back (a : Int32) (σ : fG) : fG := (s_back a σ.1, σ.2)
noncomputable def t_read (σ : fG) : fG := if (rdA σ.1.2.1 σ.1.1.toNat).1 = 0 then (s_read σ.1, rdT σ.1.2.1 σ.1.1.toNat, begS (rdT σ.1.2.1 σ.1.1.toNat), [], σ.2.2.2.2) else (s_read σ.1, σ.2)
def c_go (b v : Int32) (σ : fG) : Prop := 0 ≤ b.toInt ∧ b.toInt < nbS σ.2.1 ∧ 0 ≤ v.toInt ∧ v.toInt ≤ 9 ∧ σ.2.2.1 7 b.toInt.toNat ≠ v
noncomputable def ifP {A : Type} (c : Prop) (a b : A) : A := @ite A c (Classical.propDecidable c) a b
theorem ifP_y {A : Type} {c : Prop} {a b : A} (h : c) : ifP c a b = a := @if_pos c (Classical.propDecidable c) h A a b
theorem ifP_n {A : Type} {c : Prop} {a b : A} (h : ¬ c) : ifP c a b = b := @if_neg c (Classical.propDecidable c) h A a b
noncomputable def t_go (b v : Int32) (σ : fG) : fG := ifP (c_go b v σ) (σ.1, σ.2.1, upS σ.2.2.1 7 b.toInt.toNat v, rmS σ.2.2.1 σ.2.2.2.1, σ.2.2.2.2) σ
noncomputable def a_go (b v : Int32) (σ : fG) : Int32 := ifP (c_go b v σ) 1 0
def c_prop (f v : Int32) (σ : fG) : Prop := 0 ≤ f.toInt ∧ f.toInt < nfS σ.2.1 ∧ (σ.2.2.1 2 f.toInt.toNat).toInt = 0 ∧ σ.2.2.1 5 f.toInt.toNat ≠ v
noncomputable def t_prop (f v : Int32) (σ : fG) : fG := ifP (c_prop f v σ) (σ.1, σ.2.1, upS σ.2.2.1 5 f.toInt.toNat v, rmS σ.2.2.1 σ.2.2.2.1, σ.2.2.2.2) σ
noncomputable def a_prop (f v : Int32) (σ : fG) : Int32 := ifP (c_prop f v σ) 1 0
def c_fr (f : Int32) (σ : fG) : Prop := 0 ≤ f.toInt ∧ f.toInt < nfS σ.2.1
def c_hang (f : Int32) (σ : fG) : Prop := (σ.2.2.1 2 f.toInt.toNat).toInt = 0
noncomputable def t_shake (f : Int32) (σ : fG) : fG := ifP (c_fr f σ ∧ c_hang f σ) (σ.1, σ.2.1, ifP (fdS σ.2.1 σ.2.2.1) (fndS σ.2.1 σ.2.2.1 f.toInt.toNat) (shkS σ.2.2.1 f.toInt.toNat), rmS σ.2.2.1 σ.2.2.2.1, σ.2.2.2.2) σ
noncomputable def a_shake (f : Int32) (σ : fG) : Int32 := ifP (c_fr f σ) (ifP (c_hang f σ) (ifP (fdS σ.2.1 σ.2.2.1) 1 0) (-2)) (-1)
noncomputable def sdT (σ : fG) : Int32 := Int32.ofInt σ.2.1.2.2.2.2.1
noncomputable def t_hours (n : Int32) (σ : fG) : fG := ifP (1 ≤ n.toInt ∧ n.toInt ≤ 48) (σ.1, σ.2.1, hrsS σ.2.1 (sdT σ) σ.2.2.1 n.toInt.toNat, rmS σ.2.2.1 σ.2.2.2.1, σ.2.2.2.2) σ
noncomputable def a_hours (n : Int32) (σ : fG) : Int32 := ifP (0 ≤ n.toInt ∧ n.toInt ≤ 48) (hrsS σ.2.1 (sdT σ) σ.2.2.1 n.toInt.toNat 9 0) (-1)
def t_undo (σ : fG) : fG := match σ.2.2.2.1 with
  | [] => σ
  | u :: U => (σ.1, σ.2.1, u, U, σ.2.2.2.2)
def a_undo (σ : fG) : Int32 := match σ.2.2.2.1 with
  | [] => 0
  | _ :: _ => 1
def c_tell (a b : Int32) (σ : fG) : Prop := (1 ≤ a.toInt ∧ a.toInt ≤ 9) ∧ (0 ≤ b.toInt ∧ b.toInt ≤ 9) ∧ σ.1.2.2.2.1 < 7
noncomputable def t_tell (a b : Int32) (σ : fG) : fG := (s_tell a b σ.1, σ.2.1, σ.2.2.1, σ.2.2.2.1, σ.2.2.2.2.1, ifP (c_tell a b σ) (fun i => if i = σ.1.2.2.2.1.toNat then (a, b) else σ.2.2.2.2.2 i) σ.2.2.2.2.2)
noncomputable def t_forget (σ : fG) : fG := (s_forget σ.1, σ.2)
noncomputable def t_hold (a : Int32) (σ : fG) : fG := (s_hold a σ.1, σ.2.1, σ.2.2.1, σ.2.2.2.1, ifP (0 ≤ a.toInt ∧ a.toInt ≤ 2) (fun j => if j = a.toInt.toNat then σ.2.2.1 else σ.2.2.2.2.1 j) σ.2.2.2.2.1, σ.2.2.2.2.2)
def c_rest (a : Int32) (σ : fG) : Prop := (0 ≤ a.toInt ∧ a.toInt ≤ 2) ∧ σ.1.2.2.2.2 a.toInt.toNat ≠ 0
noncomputable def t_rest (a : Int32) (σ : fG) : fG := ifP (c_rest a σ) (σ.1, σ.2.1, σ.2.2.2.2.1 a.toInt.toNat, [], σ.2.2.2.2) σ
/-! what holds stays so -/
section OK
variable {T : tX} {g : gS}
theorem okG_beg (hT : wT T) : okG T (begS T) := ⟨okS_beg hT, fun _ _ => Or.inl rfl⟩
theorem okG_go (h : okG T g) {b : Nat} {v : Int32} (hv : 0 ≤ v.toInt ∧ v.toInt ≤ 9) : okG T (upS g 7 b v) := by
  obtain ⟨⟨h1, h2, h3, h4⟩, h5⟩ := h
  refine ⟨⟨fun i hi => ?_, fun f hf z => ?_, fun f hf => ?_, ?_⟩, fun f hf => ?_⟩
  · by_cases q : i = b
    · rw [q, upS_s]
      exact hv
    · rw [upS_o (Or.inr q)]
      exact h1 i hi
  · rw [upS_o (Or.inl (by decide))] at z
    rw [upS_o (Or.inl (by decide)), upS_o (Or.inl (by decide))]
    exact h2 f hf z
  · rw [upS_o (Or.inl (by decide))]
    exact h3 f hf
  · rw [upS_o (Or.inl (by decide)), upS_o (Or.inl (by decide))]
    exact h4
  · rw [upS_o (Or.inl (by decide))]
    exact h5 f hf
theorem okG_prop (h : okG T g) {b : Nat} {v : Int32} (hv : v = 0 ∨ v = 1) : okG T (upS g 5 b v) := by
  obtain ⟨⟨h1, h2, h3, h4⟩, h5⟩ := h
  refine ⟨⟨fun i hi => ?_, fun f hf z => ?_, fun f hf => ?_, ?_⟩, fun f hf => ?_⟩
  · rw [upS_o (Or.inl (by decide))]
    exact h1 i hi
  · rw [upS_o (Or.inl (by decide))] at z
    rw [upS_o (Or.inl (by decide)), upS_o (Or.inl (by decide))]
    exact h2 f hf z
  · rw [upS_o (Or.inl (by decide))]
    exact h3 f hf
  · rw [upS_o (Or.inl (by decide)), upS_o (Or.inl (by decide))]
    exact h4
  · by_cases q : f = b
    · rw [q, upS_s]
      exact hv
    · rw [upS_o (Or.inr q)]
      exact h5 f hf
theorem okG_shk (h : okG T g) (b : Nat) : okG T (shkS g b) := by
  obtain ⟨⟨h1, h2, h3, h4⟩, h5⟩ := h
  have o : ∀ a i, a ≠ 6 → a ≠ 9 → shkS g b a i = g a i := fun a i z6 z9 => by
    unfold shkS
    rw [upS_o (Or.inl z9), upS_o (Or.inl z6)]
  refine ⟨⟨fun i hi => ?_, fun f hf z => ?_, fun f hf => ?_, ?_⟩, fun f hf => ?_⟩
  · rw [o _ _ (by decide) (by decide)]
    exact h1 i hi
  · rw [o _ _ (by decide) (by decide)] at z
    rw [o _ _ (by decide) (by decide), o _ _ (by decide) (by decide)]
    exact h2 f hf z
  · rw [o _ _ (by decide) (by decide)]
    exact h3 f hf
  · rw [(shkS_9 g b).2.2.1, (shkS_9 g b).2.2.2]
    exact h4
  · rw [o _ _ (by decide) (by decide)]
    exact h5 f hf
theorem okG_fnd (h : okG T g) (b : Nat) : okG T (fndS T g b) := by
  obtain ⟨⟨h1, h2, h3, h4⟩, h5⟩ := okG_shk h b
  have o : ∀ a i, a ≠ 9 → fndS T g b a i = shkS g b a i := fun a i z9 => by
    unfold fndS
    rw [upS_o (Or.inl z9), upS_o (Or.inl z9)]
  refine ⟨⟨fun i hi => ?_, fun f hf z => ?_, fun f hf => ?_, ?_⟩, fun f hf => ?_⟩
  · rw [o _ _ (by decide)]
    exact h1 i hi
  · rw [o _ _ (by decide)] at z
    rw [o _ _ (by decide), o _ _ (by decide)]
    exact h2 f hf z
  · rw [o _ _ (by decide)]
    exact h3 f hf
  · rw [(shkS_9 g b).2.2.1, (shkS_9 g b).2.2.2] at h4
    unfold fndS
    rw [upS_s, upS_o (Or.inr (by decide)), upS_s, h4, Int32.add_mul, Int32.one_mul]
  · rw [o _ _ (by decide)]
    exact h5 f hf
theorem okG_hrs (h : okG T g) (sd : Int32) (n : Nat) : okG T (hrsS T sd g n) := by
  refine ⟨okS_hrs h.1 n, fun f hf => ?_⟩
  have e : ∀ m : Nat, hrsS T sd g m 5 f = g 5 f := fun m => by
    induction m with
    | zero => rfl
    | succ m ih =>
      show hourS T sd (hrsS T sd g m) 5 f = _
      rw [hourS_o (by decide) (Or.inl (by decide)), p2_k _ _ _ (by omega)]
      exact ih
  rw [e n]
  exact h.2 f hf
theorem rmS_in {U : List gS} {u : gS} (h : u ∈ rmS g U) : u = g ∨ u ∈ U := by
  unfold rmS at h
  rcases List.mem_cons.mp h with z | z
  · exact Or.inl z
  · right
    split at z
    · exact List.dropLast_subset _ z
    · exact z
end OK
section OZ
variable {σ : fG}
theorem okZ_sg (h : okZ σ) {x : sg} (e : x.2.2.2.2 = σ.1.2.2.2.2) : okZ (x, σ.2) := ⟨h.1, h.2.1, fun k hk hz => h.2.2 k hk (by rw [← e]; exact hz)⟩
theorem okZ_feed (h : okZ σ) (a b c d e : Int32) : okZ (t_feed a b c d e σ) := okZ_sg h (by unfold s_feed; split <;> rfl)
theorem okZ_back (h : okZ σ) (a : Int32) : okZ (t_back a σ) := okZ_sg h (by unfold s_back; split <;> rfl)
theorem okZ_forget (h : okZ σ) : okZ (t_forget σ) := okZ_sg h rfl
theorem okZ_tell (h : okZ σ) (a b : Int32) : okZ (t_tell a b σ) := ⟨h.1, h.2.1, h.2.2⟩
theorem okZ_read (h : okZ σ) : okZ (t_read σ) := by
  unfold t_read
  by_cases q : (rdA σ.1.2.1 σ.1.1.toNat).1 = 0
  · rw [if_pos q]
    refine ⟨okG_beg (rdT_wf q), fun u hu => absurd hu List.not_mem_nil, fun k _ hz => absurd ?_ hz⟩
    show (s_read σ.1).2.2.2.2 k = 0
    unfold s_read
    rw [if_pos q]
  · rw [if_neg q]
    refine okZ_sg h ?_
    unfold s_read
    rw [if_neg q]
theorem okZ_step (h : okZ σ) {g : gS} (hg : okG σ.2.1 g) : okZ (σ.1, σ.2.1, g, rmS σ.2.2.1 σ.2.2.2.1, σ.2.2.2.2) := ⟨hg, fun u hu => by
  rcases rmS_in hu with z | z
  · rw [z]
    exact h.1
  · exact h.2.1 u z, h.2.2⟩
theorem okZ_go (h : okZ σ) (b v : Int32) : okZ (t_go b v σ) := by
  unfold t_go
  by_cases q : c_go b v σ
  · rw [ifP_y q]
    exact okZ_step h (okG_go h.1 ⟨q.2.2.1, q.2.2.2.1⟩)
  · rw [ifP_n q]
    exact h
theorem okZ_prop (h : okZ σ) (f : Int32) {v : Int32} (hv : v = 0 ∨ v = 1) : okZ (t_prop f v σ) := by
  unfold t_prop
  by_cases q : c_prop f v σ
  · rw [ifP_y q]
    exact okZ_step h (okG_prop h.1 hv)
  · rw [ifP_n q]
    exact h
theorem okZ_shake (h : okZ σ) (f : Int32) : okZ (t_shake f σ) := by
  unfold t_shake
  by_cases q : c_fr f σ ∧ c_hang f σ
  · rw [ifP_y q]
    refine okZ_step h ?_
    by_cases z : fdS σ.2.1 σ.2.2.1
    · rw [ifP_y z]
      exact okG_fnd h.1 _
    · rw [ifP_n z]
      exact okG_shk h.1 _
  · rw [ifP_n q]
    exact h
theorem okZ_hours (h : okZ σ) (n : Int32) : okZ (t_hours n σ) := by
  unfold t_hours
  by_cases q : 1 ≤ n.toInt ∧ n.toInt ≤ 48
  · rw [ifP_y q]
    exact okZ_step h (okG_hrs h.1 _ _)
  · rw [ifP_n q]
    exact h
theorem okZ_undo (h : okZ σ) : okZ (t_undo σ) := by
  unfold t_undo
  split
  · exact h
  · rename_i u U e
    exact ⟨h.2.1 u (by rw [e]; exact List.mem_cons_self), fun v hv => h.2.1 v (by rw [e]; exact List.mem_cons_of_mem _ hv), h.2.2⟩
theorem okZ_hold (h : okZ σ) (a : Int32) : okZ (t_hold a σ) := by
  refine ⟨h.1, h.2.1, fun k hk hz => ?_⟩
  show okG σ.2.1 ((ifP (0 ≤ a.toInt ∧ a.toInt ≤ 2) (fun j => if j = a.toInt.toNat then σ.2.2.1 else σ.2.2.2.2.1 j) σ.2.2.2.2.1) k)
  have hz : (s_hold a σ.1).2.2.2.2 k ≠ 0 := hz
  unfold s_hold at hz
  by_cases q : 0 ≤ a.toInt ∧ a.toInt ≤ 2
  · rw [ifP_y q]
    rw [if_pos q] at hz
    show okG σ.2.1 (if k = a.toInt.toNat then σ.2.2.1 else σ.2.2.2.2.1 k)
    by_cases z : k = a.toInt.toNat
    · rw [if_pos z]
      exact h.1
    · rw [if_neg z]
      have hz : (if k = a.toInt.toNat then 1 else σ.1.2.2.2.2 k) ≠ 0 := hz
      rw [if_neg z] at hz
      exact h.2.2 k hk hz
  · rw [ifP_n q]
    rw [if_neg q] at hz
    exact h.2.2 k hk hz
theorem okZ_rest (h : okZ σ) (a : Int32) : okZ (t_rest a σ) := by
  unfold t_rest
  by_cases q : c_rest a σ
  · rw [ifP_y q]
    exact ⟨h.2.2 _ (by have := q.1; omega) q.2, fun u hu => absurd hu List.not_mem_nil, h.2.2⟩
  · rw [ifP_n q]
    exact h
end OZ
/-! ===== a call of the class, of the reference ===== -/
noncomputable def oz1 (C2 : List jm_c) (σ : fG) (G : jm_h) : Prop := ∃ (t : Nat) (F : Nat → sy_d), t < 4 ∧ G = ((sy_dh F [] [] (iv_H t)).1, C2) ∧ xZ t σ F
noncomputable def oz2 (C1 : List jm_c) (σ : fG) (G : jm_h) : Prop := ∃ F : Nat → sy_d, G = (C1, (sy_dh F [] [] (iv_H 4)).2) ∧ mZ σ F
noncomputable def oz (G : jm_h) : Prop := ∃ (s : Nat) (F F2 : Nat → sy_d) (σ : fG), s < 4 ∧ G = ((sy_dh F [] [] (iv_H s)).1, (sy_dh F2 [] [] (iv_H 4)).2) ∧ xZ s σ F ∧ mZ σ F2 ∧ okZ σ
noncomputable def xzT (Ls : Nat) (xs : Nat → Int32) (M : jm_M) (As : List Value) (V : fG → Int32 → Prop) (f : fG → fG) : Prop := ∀ (s : Nat) (F : Nat → sy_d) (X2 : List jm_c) (σ : fG), s < 4 → xZ s σ F → okZ σ → ∃ d, d ≤ 60 ∧ jm_T Ls xs d M (.ref 8 :: As) ((sy_dh F [] [] (iv_H s)).1, X2) 0 0 (fun v G => (∃ r : Int32, v = some (.int r) ∧ V σ r) ∧ oz1 X2 (f σ) G)
noncomputable def mzT (Ls : Nat) (xs : Nat → Int32) (M : jm_M) (As : List Value) (V : fG → Int32 → Prop) (f : fG → fG) : Prop := ∃ d, d ≤ 60 ∧ ∀ (F : Nat → sy_d) (X1 : List jm_c) (σ : fG), mZ σ F → okZ σ → jm_T Ls xs d M (.ref 1000 :: As) (X1, (sy_dh F [] [] (iv_H 4)).2) 0 0 (fun v G => (∃ r : Int32, v = some (.int r) ∧ V σ r) ∧ oz2 X1 (f σ) G)
/-- both sides alike: a turn -/
theorem ozw_un_of {Ls : Nat} {xs : Nat → Int32} {kX kM : jm_M} {As : List Value} {V : fG → Int32 → Prop} {f : fG → fG} {G : jm_h} (hf : ∀ σ, okZ σ → okZ (f σ)) (hx : xzT Ls xs kX As V f) (hm : mzT Ls xs kM As V f) (hG : oz G) : ∃ (C2 : List jm_c) (σ : fG), (∃ F : Nat → sy_d, C2 = (sy_dh F [] [] (iv_H 4)).2) ∧ lw_un Ls xs kX kM As G (V σ) (oz1 C2 (f σ)) oz := by
  obtain ⟨s, F, F2, σ, hs, rfl, h1, h2, h3⟩ := hG
  obtain ⟨d1, hd1, k1⟩ := hx s F (sy_dh F2 [] [] (iv_H 4)).2 σ hs h1 h3
  obtain ⟨d2, hd2, k2⟩ := hm
  refine ⟨_, σ, ⟨F2, rfl⟩, d1, d2, hd1, hd2, k1, ?_⟩
  rintro G1 ⟨t, F', ht4, rfl, hF'⟩
  refine jm_T_mono (k2 F2 _ σ h2 h3) ?_
  rintro v G2 ⟨⟨r, hr, hV⟩, F3, rfl, hF3⟩
  exact ⟨⟨r, hr, hV⟩, t, F', F3, f σ, ht4, rfl, hF', hF3, hf σ h3⟩
theorem oz_8 : ∀ {G : jm_h}, oz G → ∃ fs, jm_g G 8 = some (.inr (9, fs)) := by
  rintro G ⟨s, F, F2, σ, hs, rfl, -⟩
  match s, hs with
  | 0, _ => exact ⟨_, rfl⟩
  | 1, _ => exact ⟨_, rfl⟩
  | 2, _ => exact ⟨_, rfl⟩
  | 3, _ => exact ⟨_, rfl⟩
  | n + 4, h => exact absurd h (by omega)
theorem oz1_1000 {C2 : List jm_c} {σ : fG} (h : ∃ F : Nat → sy_d, C2 = (sy_dh F [] [] (iv_H 4)).2) : ∀ G, oz1 C2 σ G → ∃ fs, jm_g G 1000 = some (.inr (10, fs)) := by
  obtain ⟨F, rfl⟩ := h
  rintro G ⟨t, F1, -, rfl, -⟩
  exact ⟨_, rfl⟩
/-! ===== what a call leaves ===== -/
theorem xZ_of {s : Nat} {σ σ' : fG} {F F1 : Nat → sy_d} {W : List Nat} (h : xZ s σ F) (q : qC W F F1) (hW : ∀ a ∈ W, a < 3 ∨ 43 ≤ a) (hT : σ'.2.1 = σ.2.1) (ho : ox F1 = σ'.1) (hg : gC 50 (nfS σ.2.1) (nbS σ.2.1) F1 σ'.2.2.1) (hu : trC (nfS σ.2.1) (nbS σ.2.1) F1 σ'.2.2.2.1) (hh : hlC (nfS σ.2.1) (nbS σ.2.1) F1 σ'.2.2.2.2.1) (ht : tdC σ'.1.2.2.2.1 σ'.2.2.2.2.2 (sy_ai F1 80) (sy_ai F1 81)) : xZ s σ' F1 := by
  have hb := bX_or s
  have n : ∀ j, 3 ≤ j → j < 43 → j ∉ W := fun j h1 h2 z => by have := hW j z; omega
  obtain ⟨⟨h1, h2, h3⟩, h4, h5, h6, h7, h8, h9⟩ := h
  refine ⟨⟨jx_ok_eq (q.2 39 (by decide) (n _ (by decide) (by decide))) (q.2 41 (by decide) (n _ (by decide) (by decide))) h1, (qq_l q (by decide) (n _ (by decide) (by decide))).trans h2, ho⟩, ?_, ?_, ?_, ?_, ht, ?_⟩
  · rw [hT]
    exact xC_q (by omega) h4 q (fun a ha => by have := hW a ha; omega)
  · rw [hT]
    exact hg
  · rw [hT]
    exact hu
  · rw [hT]
    exact hh
  · rw [hT]
    intro f hf
    rw [qq_a q (by omega) (n _ (by omega) (by omega))]
    exact h9 f hf
/-- nothing that counts changes -/
theorem xZ_q {s : Nat} {σ : fG} {F F1 : Nat → sy_d} {W : List Nat} (h : xZ s σ F) (q : qC W F F1) (hW : ∀ a ∈ W, (43 ≤ a ∧ a < 50) ∨ (62 ≤ a ∧ a < 74)) : xZ s σ F1 := by
  have n : ∀ j, j < 43 ∨ (50 ≤ j ∧ j < 62) ∨ 74 ≤ j → j ∉ W := fun j h1 z => by have := hW j z; omega
  have e : ∀ j, j < 82 → j < 43 ∨ (50 ≤ j ∧ j < 62) ∨ 74 ≤ j → F1 j = F j := fun j h1 h2 => q.2 j h1 (n j h2)
  obtain ⟨⟨h1, h2, h3⟩, h4, h5, h6, h7, h8, h9⟩ := id h
  refine xZ_of h q (fun a ha => by have := hW a ha; omega) rfl ?_ (gC_eq h5 (fun j h1 h2 => e j (by omega) (by omega))) (trC_eq h6 (e 74 (by decide) (by omega)) (e 75 (by decide) (by omega)) (e 76 (by decide) (by omega))) (hlC_eq h7 (e 77 (by decide) (by omega)) (e 78 (by decide) (by omega))) ?_
  · rw [ox_eq (e 0 (by decide) (by omega)) (e 1 (by decide) (by omega)) (e 2 (by decide) (by omega)) (e 78 (by decide) (by omega)) (e 79 (by decide) (by omega))]
    exact h3
  · rw [nz_fa (e 80 (by decide) (by omega)), nz_fa (e 81 (by decide) (by omega))]
    exact h8
abbrev KM : List Nat := [1, 10, 11, 20, 21, 23, 29, 54, 60, 63, 64, 67, 68]
theorem mZ_of {σ σ' : fG} {F F1 : Nat → sy_d} {W : List Nat} (h : mZ σ F) (q : qR W F F1) (hW : ∀ a ∈ W, (a < 31 ∨ 50 < a) ∧ a ≠ 11 ∧ a ≠ 29) (hT : σ'.2.1 = σ.2.1) (ho : om F1 = σ'.1) (hg : gNw σ.2.1 F1 σ'.2.2.1) (hu : hiR (nfS σ.2.1) (nbS σ.2.1) F1 σ'.2.2.2.1) (hh : hrR (nfS σ.2.1) (nbS σ.2.1) F1 σ'.2.2.2.2.1) (ht : tdC σ'.1.2.2.2.1 σ'.2.2.2.2.2 (sy_ai F1 63) (sy_ai F1 64)) : mZ σ' F1 := by
  have n : ∀ j, (31 ≤ j ∧ j ≤ 50) ∨ j = 11 ∨ j = 29 → j ∉ W := fun j h1 z => by have := hW j z; omega
  obtain ⟨⟨h1, h2, h3⟩, h4, h5, h6, h7, h8⟩ := h
  refine ⟨⟨jm_rpn_eq (fun p hp => q.2 p (by revert p; decide) (n p (by revert p; decide))) h1, (qq_l q (by decide) (n _ (by decide))).trans h2, ho⟩, ?_, ?_, ?_, ?_, ht⟩
  · rw [hT]
    exact cR_q h4 q (fun a ha => ⟨(hW a ha).1, (hW a ha).2.1⟩)
  · rw [hT]
    exact hg
  · rw [hT]
    exact hu
  · rw [hT]
    exact hh
theorem mZ_q {σ : fG} {F F1 : Nat → sy_d} {W : List Nat} (h : mZ σ F) (q : qR W F F1) (hW : ∀ a ∈ W, (a < 31 ∨ 50 < a) ∧ a ∉ KM) : mZ σ F1 := by
  have e : ∀ j, j ∈ KM → F1 j = F j := fun j hj => q.2 j (by revert j; decide) (fun z => (hW j z).2 hj)
  obtain ⟨⟨h1, h2, h3⟩, h4, h5, h6, h7, h8⟩ := id h
  refine mZ_of h q (fun a ha => ⟨(hW a ha).1, fun z => (hW a ha).2 (by rw [z]; decide), fun z => (hW a ha).2 (by rw [z]; decide)⟩) rfl ?_ (gNw_e F h5 (nz_fa (e 54 (by decide)))) (hiR_e h6 (e 20 (by decide)) (e 60 (by decide))) (hrR_e F h7 (e 67 (by decide)) (e 68 (by decide))) ?_
  · rw [om_eq (e 1 (by decide)) (e 10 (by decide)) (e 23 (by decide)) (e 67 (by decide)) (e 21 (by decide))]
    exact h3
  · rw [nz_fa (e 63 (by decide)), nz_fa (e 64 (by decide))]
    exact h8
section XP
variable {Ls : Nat} {xs : Nat → Int32}
/-- a contract of the class gives a turn -/
theorem xz_pI {s d : Nat} (hs : s < 4) (hd : d ≤ 60) {M : jm_M} {As : List Value} {F : Nat → sy_d} {X2 : List jm_c} {σ : fG} {V : fG → Int32 → Prop} {f : fG → fG} {P : Int32 → (Nat → sy_d) → Prop} (h : jm_T Ls xs d M (.ref 8 :: As) (sy_dh F [] X2 (iv_H s)) 0 0 (pI s [] X2 P)) (k : ∀ x F', P x F' → V σ x ∧ xZ s (f σ) F') : ∃ d, d ≤ 60 ∧ jm_T Ls xs d M (.ref 8 :: As) ((sy_dh F [] [] (iv_H s)).1, X2) 0 0 (fun v G => (∃ r : Int32, v = some (.int r) ∧ V σ r) ∧ oz1 X2 (f σ) G) := by
  refine ⟨d, hd, ?_⟩
  rw [← dh_x F [] X2 hs]
  refine jm_T_mono h ?_
  rintro v G ⟨x, F', rfl, rfl, hP⟩
  obtain ⟨k1, k2⟩ := k x F' hP
  exact ⟨⟨x, rfl, k1⟩, s, F', hs, dh_x F' [] X2 hs, k2⟩
theorem mz_pI {d : Nat} {M : jm_M} {As : List Value} {F : Nat → sy_d} {X1 : List jm_c} {σ : fG} {V : fG → Int32 → Prop} {f : fG → fG} {P : Int32 → (Nat → sy_d) → Prop} (h : jm_T Ls xs d M (.ref 1000 :: As) (sy_dh F X1 [] (iv_H 4)) 0 0 (pI 4 X1 [] P)) (k : ∀ x F', P x F' → V σ x ∧ mZ (f σ) F') : jm_T Ls xs d M (.ref 1000 :: As) (X1, (sy_dh F [] [] (iv_H 4)).2) 0 0 (fun v G => (∃ r : Int32, v = some (.int r) ∧ V σ r) ∧ oz2 X1 (f σ) G) := by
  rw [← dh_m F X1 []]
  refine jm_T_mono h ?_
  rintro v G ⟨x, F', rfl, rfl, hP⟩
  obtain ⟨k1, k2⟩ := k x F' hP
  exact ⟨⟨x, rfl, k1⟩, F', dh_m F' X1 [], k2⟩
theorem cnW {W : List Nat} {j : Nat} (h : j ∉ W) : W.contains j = false := by
  rw [← Bool.not_eq_true]
  intro z
  exact h (List.contains_iff_mem.mp z)
theorem octz_x {n s d : Nat} {Wr : List Nat} {A : List sy_v} {E : List iv_t} {r : iv_t} {M : jm_M} (as : List Int32) (h : ct_ok jj (n, A, s, [s], E, Wr, iv_B0, some r, d)) (hM : jm_TB[n]? = some M) (hs : s < 4) (hW : Wr.all (fun a => (decide (43 ≤ a) && decide (a < 50)) || (decide (62 ≤ a) && decide (a < 74))) = true) (hr : r.1 = 0) (hA : ∀ F, A.map (sy_dv (nx 82 F as)) = .ref 8 :: as.map .int) (hE : ∀ F, iv_in F iv_B0 → iv_in (nx 82 F as) E) (F : Nat → sy_d) (X2 : List jm_c) {σ : fG} (hZ : xZ s σ F) :
    jm_T Ls xs d M (.ref 8 :: as.map .int) ((sy_dh F [] [] (iv_H s)).1, X2) 0 0 (fun v G => (∃ x : Int32, v = some (.int x) ∧ True) ∧ oz1 X2 σ G) := by
  have k0 : ∀ j, j < 82 → nx 82 F as j = F j := nx_lt
  have hJ0 : jx_ok (nx 82 F as) := jx_ok_eq (k0 39 (by decide)) (k0 41 (by decide)) hZ.1.1
  rw [dh_nx hs k0, ← dh_x (nx 82 F as) [] X2 hs, ← hA F]
  refine jm_T_mono (h M hM Ls xs (nx 82 F as) [] X2 (hE F hZ.2.1.1) ((jj_x hs).mpr hJ0)) ?_
  rintro v G ⟨t, F', ht, hG, hf, hB', hv, hj⟩
  have e : t = s := List.mem_singleton.mp ht
  subst e
  have fr : ∀ j, j < 82 → j ∉ Wr → F' j = F j := fun j hj hn => (hf j (by
    show j < iv_nh t
    unfold iv_nh
    rw [if_neg (by omega)]
    exact hj) (cnW (W := Wr) hn)).trans (k0 j hj)
  obtain ⟨x, hx, -⟩ := iv_ri hv hr
  refine ⟨⟨x, hx, trivial⟩, t, F', hs, by rw [hG, dh_x F' [] X2 hs], xZ_q hZ ⟨hB', fr⟩ (fun a ha => ?_)⟩
  have := List.all_eq_true.mp hW a ha
  simp only [Bool.or_eq_true, Bool.and_eq_true, decide_eq_true_eq] at this
  exact this
theorem octz_m {n d : Nat} {Wr : List Nat} {A : List sy_v} {E : List iv_t} {r : iv_t} {M : jm_M} (as : List Int32) (h : ct_ok jj (n, A, 4, [4], E, Wr, iv_B4, some r, d)) (hM : jm_TB[n]? = some M) (hW : Wr.all (fun a => (decide (a < 31) || decide (50 < a)) && !(KM.contains a)) = true) (hr : r.1 = 0) (hA : ∀ F, A.map (sy_dv (nx 69 F as)) = .ref 1000 :: as.map .int) (hE : ∀ F, iv_in F iv_B4 → iv_in (nx 69 F as) E) (F : Nat → sy_d) (X1 : List jm_c) {σ : fG} (hZ : mZ σ F) :
    jm_T Ls xs d M (.ref 1000 :: as.map .int) (X1, (sy_dh F [] [] (iv_H 4)).2) 0 0 (fun v G => (∃ x : Int32, v = some (.int x) ∧ True) ∧ oz2 X1 σ G) := by
  have k0 : ∀ j, j < 69 → nx 69 F as j = F j := nx_lt
  have hJ0 : jm_rpn (nx 69 F as) := jm_rpn_eq (fun q hq => k0 q (by revert q; decide)) hZ.1.1
  rw [← dh_m F X1 [], nz_eH X1 [] k0, ← hA F]
  refine jm_T_mono (h M hM Ls xs (nx 69 F as) X1 [] (hE F hZ.2.1.1) hJ0) ?_
  rintro v G ⟨t, F', ht, hG, hf, hB', hv, hj⟩
  have ht : t ∈ [4] := ht
  have e : t = 4 := List.mem_singleton.mp ht
  subst e
  have fr : ∀ j, j < 69 → j ∉ Wr → F' j = F j := fun j hj hn => (hf j hj (cnW (W := Wr) hn)).trans (k0 j hj)
  obtain ⟨x, hx, -⟩ := iv_ri hv hr
  refine ⟨⟨x, hx, trivial⟩, F', by rw [hG, dh_m F' X1 []], mZ_q hZ ⟨hB', fr⟩ (fun a ha => ?_)⟩
  have := List.all_eq_true.mp hW a ha
  simp only [Bool.and_eq_true, Bool.or_eq_true, decide_eq_true_eq, Bool.not_eq_true'] at this
  exact ⟨this.1, by simpa using this.2⟩
end XP
