/-! ===== expressions: what waits, and the codes that have come out ===== -/
theorem hd_W_mono {Ls : Nat} {xs : Nat → Int32} {d : Nat} {M : jm_M} {Q Q' : Option Value → jm_h → Prop} {st : jm_St} (h : hd_W Ls xs d M Q st) (hq : ∀ v G, Q v G → Q' v G) : hd_W Ls xs d M Q' st := by
  intro p l e ss m args below meth cc D h0 ex ka G0 Post C0 hP
  exact h C0 (fun v G hv => hP v G (hq v G hv))
noncomputable def ws (w : List Int32) : Nat → Nat → Nat → Nat → Prop
  | 0, g, o, p => g = 0 ∧ o = 0 ∧ p = 0
  | n + 1, g, o, p => ((w.getD n 0).toInt = 6 ∧ g = 0 ∧ ∃ g' o', o = o' + 1 ∧ ws w n g' o' p) ∨ (((w.getD n 0).toInt = 8 ∨ (w.getD n 0).toInt = 9) ∧ g = 1 ∧ ∃ p', p = p' + 1 ∧ ws w n 0 o p') ∨ (((w.getD n 0).toInt = 10 ∨ (w.getD n 0).toInt = 15) ∧ g = 2 ∧ ∃ g' p', g' ≤ 1 ∧ p = p' + 1 ∧ ws w n g' o p')
theorem ws.nil {w : List Int32} : ws w 0 0 0 0 := ⟨rfl, rfl, rfl⟩
theorem ws.opn {w : List Int32} {n g o p : Nat} (h : ws w n g o p) (q : (w.getD n 0).toInt = 6) : ws w (n + 1) 0 (o + 1) p := Or.inl ⟨q, rfl, _, _, rfl, h⟩
theorem ws.pm {w : List Int32} {n o p : Nat} (h : ws w n 0 o p) (q : (w.getD n 0).toInt = 8 ∨ (w.getD n 0).toInt = 9) : ws w (n + 1) 1 o (p + 1) := Or.inr (Or.inl ⟨q, rfl, _, rfl, h⟩)
theorem ws.td {w : List Int32} {n g o p : Nat} (h : ws w n g o p) (hg : g ≤ 1) (q : (w.getD n 0).toInt = 10 ∨ (w.getD n 0).toInt = 15) : ws w (n + 1) 2 o (p + 1) := Or.inr (Or.inr ⟨q, rfl, _, _, hg, rfl, h⟩)
theorem ws_n {w : List Int32} : ∀ {n g o p : Nat}, ws w n g o p → n ≤ 3 * o + g ∧ n = o + p ∧ g ≤ 2
  | 0, g, o, p, h => by
    obtain ⟨rfl, rfl, rfl⟩ := h
    omega
  | n + 1, g, o, p, h => by
    rcases h with ⟨_, rfl, g', o', rfl, h⟩ | ⟨_, rfl, p', rfl, h⟩ | ⟨_, rfl, g', p', hg, rfl, h⟩
    · have := ws_n h
      omega
    · have := ws_n h
      omega
    · have := ws_n h
      omega
theorem ws_eq {w w' : List Int32} : ∀ {n g o p : Nat}, ws w n g o p → (∀ i, i < n → w'.getD i 0 = w.getD i 0) → ws w' n g o p
  | 0, g, o, p, h, _ => h
  | n + 1, g, o, p, h, e => by
    have en := e n (by omega)
    rcases h with ⟨q, rfl, g', o', rfl, h⟩ | ⟨q, rfl, p', rfl, h⟩ | ⟨q, rfl, g', p', hg, rfl, h⟩
    · exact .opn (ws_eq h (fun i hi => e i (by omega))) (by rw [en]; exact q)
    · exact .pm (ws_eq h (fun i hi => e i (by omega))) (by rw [en]; exact q)
    · exact .td (ws_eq h (fun i hi => e i (by omega))) hg (by rw [en]; exact q)
theorem ws_pop {w : List Int32} {m g o p : Nat} (h : ws w (m + 1) g o p) (q : (w.getD m 0).toInt ≠ 6) : ∃ g' p', p = p' + 1 ∧ ws w m g' o p' ∧ g' ≤ 1 := by
  rcases h with ⟨z, _⟩ | ⟨_, rfl, p', rfl, h⟩ | ⟨_, rfl, g', p', hg, rfl, h⟩
  · exact absurd z q
  · exact ⟨_, _, rfl, h, by omega⟩
  · exact ⟨_, _, rfl, h, hg⟩
theorem ws_top6 {w : List Int32} {m g o p : Nat} (h : ws w (m + 1) g o p) (q : (w.getD m 0).toInt = 6) : g = 0 := by
  rcases h with ⟨_, z, _⟩ | ⟨z, _⟩ | ⟨z, _⟩
  · exact z
  · omega
  · omega
theorem ws_topp {w : List Int32} {m g o p : Nat} (h : ws w (m + 1) g o p) (q : (w.getD m 0).toInt = 8 ∨ (w.getD m 0).toInt = 9) : g ≤ 1 := by
  rcases h with ⟨_, z, _⟩ | ⟨_, z, _⟩ | ⟨z, _⟩
  · omega
  · omega
  · omega
theorem ws_zero {w : List Int32} {g o p : Nat} (h : ws w 0 g o p) : g = 0 := h.1
theorem ws_open {w : List Int32} {m o p : Nat} (h : ws w (m + 1) 0 o p) : ∃ g o', o = o' + 1 ∧ ws w m g o' p := by
  rcases h with ⟨_, _, g', o', rfl, h⟩ | ⟨_, z, _⟩ | ⟨_, z, _⟩
  · exact ⟨_, _, rfl, h⟩
  · exact absurd z (by decide)
  · exact absurd z (by decide)
noncomputable def rd (code cint : List Int32) (c : Nat) : Nat → Nat → Prop
  | 0, d => d = 0
  | n + 1, d => (∃ d', d = d' + 1 ∧ rd code cint c n d' ∧ (code.getD (c + n) 0).toInt < 2 ∧ ((code.getD (c + n) 0).toInt = 1 → 0 ≤ (cint.getD (c + n) 0).toInt ∧ (cint.getD (c + n) 0).toInt ≤ 8)) ∨ (∃ d', d = d' + 1 ∧ rd code cint c n (d' + 2) ∧ 2 ≤ (code.getD (c + n) 0).toInt)
theorem rd.nil {code cint : List Int32} {c : Nat} : rd code cint c 0 0 := rfl
theorem rd.val {code cint : List Int32} {c n d : Nat} (h : rd code cint c n d) (a : (code.getD (c + n) 0).toInt < 2) (b : (code.getD (c + n) 0).toInt = 1 → 0 ≤ (cint.getD (c + n) 0).toInt ∧ (cint.getD (c + n) 0).toInt ≤ 8) : rd code cint c (n + 1) (d + 1) := Or.inl ⟨_, rfl, h, a, b⟩
theorem rd.op {code cint : List Int32} {c n d : Nat} (h : rd code cint c n (d + 2)) (a : 2 ≤ (code.getD (c + n) 0).toInt) : rd code cint c (n + 1) (d + 1) := Or.inr ⟨_, rfl, h, a⟩
theorem rd_eq {code cint code' cint' : List Int32} {c : Nat} : ∀ {n d : Nat}, rd code cint c n d → (∀ i, c ≤ i → i < c + n → code'.getD i 0 = code.getD i 0 ∧ cint'.getD i 0 = cint.getD i 0) → rd code' cint' c n d
  | 0, d, h, _ => h
  | n + 1, d, h, e => by
    obtain ⟨e1, e2⟩ := e (c + n) (by omega) (by omega)
    rcases h with ⟨d', rfl, h, a, b⟩ | ⟨d', rfl, h, a⟩
    · exact .val (rd_eq h (fun i h1 h2 => e i h1 (by omega))) (by rw [e1]; exact a) (by rw [e1, e2]; exact b)
    · exact .op (rd_eq h (fun i h1 h2 => e i h1 (by omega))) (by rw [e1]; exact a)
theorem rd_go {code cint : List Int32} {c : Nat} : ∀ {n d : Nat}, rd code cint c n d → ∀ m, rp_go code cint m (c + n) d → rp_go code cint (n + m) c 0
  | 0, d, h, m, q => by
    have h : d = 0 := h
    subst h
    rw [Nat.zero_add]
    exact q
  | n + 1, d, h, m, q => by
    have e : n + 1 + m = n + (m + 1) := by omega
    rw [e]
    rcases h with ⟨d', rfl, h, a, b⟩ | ⟨d', rfl, h, a⟩
    · exact rd_go h (m + 1) ⟨fun _ => ⟨b, q⟩, fun z => absurd z (by omega)⟩
    · exact rd_go h (m + 1) ⟨fun z => absurd z (by omega), fun _ => ⟨by omega, q⟩⟩
/-- the codes that lay there before, and those behind, stay -/
noncomputable def kp (F F' : Nat → sy_d) : Prop := ∀ i : Nat, ((i : Int) < (sy_i F 15).toInt ∨ (sy_i F' 15).toInt ≤ i) → (sy_ai F' 49).getD i 0 = (sy_ai F 49).getD i 0 ∧ (sy_ai F' 50).getD i 0 = (sy_ai F 50).getD i 0
theorem kp_same {F F1 : Nat → sy_d} (a49 : sy_ai F1 49 = sy_ai F 49) (a50 : sy_ai F1 50 = sy_ai F 50) : kp F F1 := fun i _ => by rw [a49, a50]; exact ⟨rfl, rfl⟩
theorem kp_upd {F F1 : Nat → sy_d} {K V : Int32} (h0 : 0 ≤ (sy_i F 15).toInt) (h15 : (sy_i F1 15).toInt = (sy_i F 15).toInt + 1) (a49 : sy_ai F1 49 = jm_upd (sy_ai F 49) (sy_i F 15).toInt.toNat K) (a50 : sy_ai F1 50 = jm_upd (sy_ai F 50) (sy_i F 15).toInt.toNat V) : kp F F1 := fun i h => by
  rw [a49, a50, jm_upd_at, jm_upd_at, if_neg (by omega), if_neg (by omega)]
  exact ⟨rfl, rfl⟩
theorem kp_trans {F F1 F2 : Nat → sy_d} (h : kp F F1) (h2 : kp F1 F2) (l1 : (sy_i F 15).toInt ≤ (sy_i F1 15).toInt) (l2 : (sy_i F1 15).toInt ≤ (sy_i F2 15).toInt) : kp F F2 := fun i q => by
  have a := h i (by omega)
  have b := h2 i (by omega)
  exact ⟨b.1.trans a.1, b.2.trans a.2⟩
noncomputable def WC : List Nat := [15, 16, 49, 50]
noncomputable def co_R (b : Int) (F F' : Nat → sy_d) : Prop := gr WC F F' ∧ (sy_i F 15).toInt ≤ (sy_i F' 15).toInt ∧ (sy_i F' 15).toInt + (sy_i F' 16).toInt = (sy_i F 15).toInt + (sy_i F 16).toInt ∧ kp F F' ∧
  ∀ c g o p : Nat, (c : Int) ≤ (sy_i F 15).toInt → ws (sy_ai F 51) (sy_i F 16).toInt.toNat g o p → rd (sy_ai F 49) (sy_ai F 50) c ((sy_i F 15).toInt - c).toNat (p + 1) → ∃ g' p', ws (sy_ai F 51) (sy_i F' 16).toInt.toNat g' o p' ∧ rd (sy_ai F' 49) (sy_ai F' 50) c ((sy_i F' 15).toInt - c).toNat (p' + 1) ∧ g' ≤ 1 ∧ (b = 0 → g' = 0)
theorem co_Rdst {b : Int} {F F' F2 : Nat → sy_d} (h : co_R b F F') (e : ∀ q, q < 69 → F2 q = F' q) : co_R b F F2 := by
  obtain ⟨h1, h2, h3, h4, h5⟩ := h
  have i15 := nz_fi (e 15 (by decide))
  have i16 := nz_fi (e 16 (by decide))
  have a49 := nz_fa (e 49 (by decide))
  have a50 := nz_fa (e 50 (by decide))
  refine ⟨h1.dst e, by rw [i15]; exact h2, by rw [i15, i16]; exact h3, ?_, ?_⟩
  · unfold kp
    rw [i15, a49, a50]
    exact h4
  · rw [i15, i16, a49, a50]
    exact h5
theorem co_Rsrc {b : Int} {F F' F0 : Nat → sy_d} (h : co_R b F0 F') (e : ∀ q, q < 69 → F0 q = F q) : co_R b F F' := by
  obtain ⟨h1, h2, h3, h4, h5⟩ := h
  have i15 := nz_fi (e 15 (by decide))
  have i16 := nz_fi (e 16 (by decide))
  have a49 := nz_fa (e 49 (by decide))
  have a50 := nz_fa (e 50 (by decide))
  have a51 := nz_fa (e 51 (by decide))
  refine ⟨h1.src e, by rw [← i15]; exact h2, by rw [← i15, ← i16]; exact h3, ?_, ?_⟩
  · unfold kp
    rw [← i15, ← a49, ← a50]
    exact h4
  · rw [← i15, ← i16, ← a49, ← a50, ← a51]
    exact h5
theorem co_end {b : Int} {F F1 : Nat → sy_d} (hG : gr WC F F1) (h15 : (sy_i F1 15).toInt = (sy_i F 15).toInt) (h16 : (sy_i F1 16).toInt = (sy_i F 16).toInt) (a49 : sy_ai F1 49 = sy_ai F 49) (a50 : sy_ai F1 50 = sy_ai F 50)
    (h : ∀ g o p : Nat, ws (sy_ai F 51) (sy_i F 16).toInt.toNat g o p → g ≤ 1 ∧ (b = 0 → g = 0)) : co_R b F F1 := by
  refine ⟨hG, by omega, by omega, kp_same a49 a50, fun c g o p hc hw hr => ⟨g, p, by rw [h16]; exact hw, by rw [h15, a49, a50]; exact hr, h g o p hw⟩⟩
theorem co_step {b : Int} {F F1 F' : Nat → sy_d} {K V : Int32} (hK : 2 ≤ K.toInt) (hG : gr WC F F1) (h15 : (sy_i F1 15).toInt = (sy_i F 15).toInt + 1) (h16 : (sy_i F1 16).toInt = (sy_i F 16).toInt - 1) (a49 : sy_ai F1 49 = jm_upd (sy_ai F 49) (sy_i F 15).toInt.toNat K) (a50 : sy_ai F1 50 = jm_upd (sy_ai F 50) (sy_i F 15).toInt.toNat V) (a51 : sy_ai F1 51 = sy_ai F 51) (hp : 0 < (sy_i F 16).toInt) (h0 : 0 ≤ (sy_i F 15).toInt) (hw : ((sy_ai F 51).getD ((sy_i F 16).toInt - 1).toNat 0).toInt ≠ 6) (h : co_R b F1 F') : co_R b F F' := by
  obtain ⟨g1, g2, g3, g4, g5⟩ := h
  refine ⟨hG.trans g1 (by decide), by omega, by omega, kp_trans (kp_upd h0 h15 a49 a50) g4 (by omega) (by omega), fun c g o p hc hws hr => ?_⟩
  obtain ⟨m, hm⟩ : ∃ m, (sy_i F 16).toInt.toNat = m + 1 := ⟨(sy_i F 16).toInt.toNat - 1, by omega⟩
  have hm1 : ((sy_i F 16).toInt - 1).toNat = m := by omega
  rw [hm1] at hw
  rw [hm] at hws
  obtain ⟨g', p', rfl, hws', hg'⟩ := ws_pop hws hw
  have e16 : (sy_i F1 16).toInt.toNat = m := by omega
  have e15 : ((sy_i F1 15).toInt - c).toNat = ((sy_i F 15).toInt - c).toNat + 1 := by omega
  have ec : c + ((sy_i F 15).toInt - c).toNat = (sy_i F 15).toInt.toNat := by omega
  have r1 : rd (sy_ai F1 49) (sy_ai F1 50) c ((sy_i F 15).toInt - c).toNat (p' + 2) := rd_eq hr (fun i h1 h2 => by
    rw [a49, a50, jm_upd_at, jm_upd_at, if_neg (by omega), if_neg (by omega)]
    exact ⟨rfl, rfl⟩)
  have r2 : rd (sy_ai F1 49) (sy_ai F1 50) c (((sy_i F 15).toInt - c).toNat + 1) (p' + 1) := .op r1 (by
    rw [a49, jm_upd_at, if_pos ec]
    exact hK)
  obtain ⟨g2', p2', z1, z2, z3, z4⟩ := g5 c g' o p' (by omega) (by rw [a51, e16]; exact hws') (by rw [e15]; exact r2)
  exact ⟨g2', p2', by rw [← a51]; exact z1, z2, z3, z4⟩
section CO
variable {Ls : Nat} {xs : Nat → Int32} (X1 X2 : List jm_c)
end CO
