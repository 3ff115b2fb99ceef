/-! ===== arrays with symbols, followed; the whole step with symbols ===== -/
theorem sy_ea {Ls : Nat} {xs : Nat → Int32} {a : Nat} (h : ¬ a = 0) : jm_ea Ls xs a = jm_ea 0 (fun _ => 0) a := by
  unfold jm_ea
  rw [if_neg h, if_neg h]
section SY5
variable {M : jm_M} {Ls : Nat} {xs : Nat → Int32} {bc bs : Nat} {i : jm_I} {pc nv : Nat} {L : List (Option sy_v)} {S : List sy_v} {G : sy_h} {q : Nat × Nat} {st : sy_St} {x y : sy_x}
theorem sy_bif {α : Type} {b : Bool} {r : α} {o : Option α} (hb : b = false) (h : o = some r) : (bif b then none else o) = some r := by
  rw [hb]; exact h
set_option maxHeartbeats 8000000 in
theorem sy_5_ok (h : sy_5 nv (jm_mx M) i pc L S G q x = some (st, y)) : (∃ r, y.1 = x.1 ++ r) ∧ (∃ r, y.2.1 = x.2.1 ++ r) ∧ ∀ (F : Nat → sy_d) (X1 X2 : List jm_c) (r : List sy_e), sy_sat F nv (y.1 ++ r) → (∀ p ∈ y.2.1, sy_ps F p) →
    jm_step M Ls xs bc bs i pc (sy_dL F L) (sy_dS F S) (sy_dh F X1 X2 G) q = some (sy_ds F X1 X2 st) := by
  obtain ⟨ins, n, la, lb, po⟩ := i
  unfold sy_5 at h
  dsimp only at h
  split at h
  · split at h
    · rename_i hn
      subst hn
      split at h
      · rename_i i a r
        split at h
        · rename_i ha8
          split at h
          · rename_i v kd N f hea
            split at h
            · rename_i hc
              cases ho : jm_out v N with
              | true => rw [ho] at h; cases h
              | false =>
                rw [ho] at h
                cases h
                refine ⟨⟨[], (List.append_nil _).symm⟩, ⟨[], (List.append_nil _).symm⟩, fun F X1 X2 r2 hs hp => jm_step_d2 rfl rfl rfl rfl rfl ?_⟩
                show jm_d2 M Ls xs bc bs _ pc (sy_dL F L) (.int v :: .ref a :: sy_dS F r) _ q = _
                simp only [jm_d2, if_pos ha8, sy_ea hc.2, hea, if_pos hc.1, if_pos]
                exact sy_bif ho rfl
            · cases h
          · cases h
        · rename_i ha8
          split at h
          · rename_i kd N c hg
            split at h
            · rename_i hc
              split at h
              · rename_i P1 hbd
                cases h
                obtain ⟨k1, k2⟩ := sy_bd_ok hbd
                obtain ⟨⟨z, T1⟩, hz⟩ : ∃ z, sy_re nv c i x.1 = z := ⟨_, rfl⟩
                rw [hz]
                refine ⟨sy_re_pre hz, k1, fun F X1 X2 r2 hs hp => jm_step_d2 rfl rfl rfl rfl rfl ?_⟩
                obtain ⟨v, hv, ho⟩ := k2 F hp
                obtain ⟨l, hl⟩ := sy_ak0 (F := F) hc.2
                have hd := sy_re_ok hz hs hv
                show jm_d2 M Ls xs bc bs _ pc (sy_dL F L) (sy_dv F i :: .ref a :: sy_dS F r) _ q = _
                rw [hv]
                simp only [jm_d2, if_neg ha8, sy_gt_ok hg, sy_dc, hl, if_pos hc.1, if_pos]
                refine sy_bif ho ?_
                simp only [sy_ds, sy_dS, List.map_cons, hd, hl, sy_rd]
              · cases h
            · cases h
          · cases h
      · cases h
    · cases h
  · split at h
    · rename_i hn
      subst hn
      split at h
      · rename_i i a r
        split at h
        · rename_i kd N c hg
          split at h
          · rename_i hc
            split at h
            · rename_i P1 hbd
              cases h
              obtain ⟨k1, k2⟩ := sy_bd_ok hbd
              obtain ⟨⟨z, T1⟩, hz⟩ : ∃ z, sy_re nv c i x.1 = z := ⟨_, rfl⟩
              rw [hz]
              refine ⟨sy_re_pre hz, k1, fun F X1 X2 r2 hs hp => jm_step_d2 rfl rfl rfl rfl rfl ?_⟩
              obtain ⟨v, hv, ho⟩ := k2 F hp
              obtain ⟨l, hl⟩ := sy_ak0 (F := F) hc.2.1
              have hd := sy_re_ok hz hs hv
              show jm_d2 M Ls xs bc bs _ pc (sy_dL F L) (sy_dv F i :: .ref a :: sy_dS F r) _ q = _
              rw [hv]
              simp only [jm_d2, if_neg hc.2.2, sy_gt_ok hg, sy_dc, hl, if_pos hc.1, if_pos]
              refine sy_bif ho ?_
              simp only [sy_ds, sy_dS, List.map_cons, hd, hl, sy_rd]
            · cases h
          · cases h
        · cases h
      · cases h
    · cases h
  · split at h
    · rename_i hn
      subst hn
      split at h
      · rename_i i a r
        split at h
        · rename_i kd N c hg
          split at h
          · rename_i hc
            split at h
            · rename_i P1 hbd
              cases h
              obtain ⟨k1, k2⟩ := sy_bd_ok hbd
              obtain ⟨⟨z, T1⟩, hz⟩ : ∃ z, sy_re nv c i x.1 = z := ⟨_, rfl⟩
              rw [hz]
              refine ⟨sy_re_pre hz, k1, fun F X1 X2 r2 hs hp => jm_step_d2 rfl rfl rfl rfl rfl ?_⟩
              obtain ⟨v, hv, ho⟩ := k2 F hp
              obtain ⟨l, hl⟩ := sy_ak1 (F := F) hc.2
              have hd := sy_re_ok hz hs hv
              show jm_d2 M Ls xs bc bs _ pc (sy_dL F L) (sy_dv F i :: .ref a :: sy_dS F r) _ q = _
              rw [hv]
              simp only [jm_d2, sy_gt_ok hg, sy_dc, hl, if_pos hc.1, if_pos]
              refine sy_bif ho ?_
              simp only [sy_ds, sy_dS, List.map_cons, hd, hl, sy_rd]
            · cases h
          · cases h
        · cases h
      · cases h
    · cases h
  · split at h
    · rename_i hn
      subst hn
      split at h
      · rename_i v i a r
        split at h
        · rename_i kd N c hg
          split at h
          · rename_i hc
            split at h
            · rename_i P1 hbd
              cases h
              obtain ⟨k1, k2⟩ := sy_bd_ok hbd
              obtain ⟨⟨z, T1⟩, hz⟩ : ∃ z, sy_wr nv c i v x.1 = z := ⟨_, rfl⟩
              rw [hz]
              refine ⟨sy_wr_pre hz, k1, fun F X1 X2 r2 hs hp => jm_step_d2 rfl rfl rfl rfl rfl ?_⟩
              obtain ⟨j, hj, ho⟩ := k2 F hp
              obtain ⟨l, hl⟩ := sy_ak0 (F := F) hc.2.1
              obtain ⟨w, hw⟩ := sy_ty0 (F := F) hc.2.2
              have hd := sy_wr_ok hz hs
              rw [hl, hj, hw] at hd
              show jm_d2 M Ls xs bc bs _ pc (sy_dL F L) (sy_dv F v :: sy_dv F i :: .ref a :: sy_dS F r) _ q = _
              rw [hj, hw]
              simp only [jm_d2, sy_gt_ok hg, sy_dc, hl, if_pos hc.1, if_pos]
              refine sy_bif ho ?_
              have : (.inl (0, N, .inl (jm_upd l j.toNatClampNeg w)) : jm_c) = sy_dc F (.inl (0, N, z)) := by simp only [sy_dc, hd]; rfl
              rw [this, sy_st_ok hg]
              rfl
            · cases h
          · cases h
        · cases h
      · cases h
    · cases h
  · split at h
    · rename_i hn
      subst hn
      split at h
      · rename_i v i a r
        split at h
        · rename_i kd N c hg
          split at h
          · rename_i hc
            split at h
            · rename_i P1 w1 T1 hbd hw1
              cases h
              obtain ⟨k1, k2⟩ := sy_bd_ok hbd
              obtain ⟨⟨z, T2⟩, hz⟩ : ∃ z, sy_wr nv c i w1 T1 = z := ⟨_, rfl⟩
              rw [hz]
              have hpre : ∃ r, T2 = x.1 ++ r := by
                obtain ⟨r1, e1⟩ := sy_a1_pre hw1
                obtain ⟨r2, e2⟩ := sy_wr_pre hz
                exact ⟨r1 ++ r2, by rw [e2, e1, List.append_assoc]⟩
              refine ⟨hpre, k1, fun F X1 X2 r2 hs hp => jm_step_d2 rfl rfl rfl rfl rfl ?_⟩
              obtain ⟨j, hj, ho⟩ := k2 F hp
              obtain ⟨l, hl⟩ := sy_ak0 (F := F) hc.2.1
              obtain ⟨w, hw⟩ := sy_ty0 (F := F) hc.2.2
              have hd := sy_wr_ok hz hs
              have hs1 : ∃ r3, sy_sat F nv (T1 ++ r3) := by
                obtain ⟨r3, e3⟩ := sy_wr_pre hz
                refine ⟨r3 ++ r2, ?_⟩
                rw [← List.append_assoc, ← e3]
                exact hs
              obtain ⟨r3, hs1⟩ := hs1
              have hw2 := sy_a1_ok (F := F) hw1 hs1 (Or.inl ⟨rfl, by rw [hw]; rcases hc.1 with e | e <;> subst e <;> exact ⟨_, rfl⟩⟩)
              rw [hw] at hw2
              rw [hl, hj, hw2] at hd
              show jm_d2 M Ls xs bc bs _ pc (sy_dL F L) (sy_dv F v :: sy_dv F i :: .ref a :: sy_dS F r) _ q = _
              rw [hj, hw]
              rcases hc.1 with e | e
              · subst e
                simp only [jm_d2, sy_gt_ok hg, sy_dc, hl, if_pos]
                refine sy_bif ho ?_
                have : (.inl (1, N, .inl (jm_upd l j.toNatClampNeg w.toInt8.toInt32)) : jm_c) = sy_dc F (.inl (1, N, z)) := by simp only [sy_dc, hd]; rfl
                rw [this, sy_st_ok hg]
                rfl
              · subst e
                simp only [jm_d2, sy_gt_ok hg, sy_dc, hl, if_pos]
                show (bif jm_out j N then none else _) = _
                refine sy_bif ho ?_
                have : (.inl (2, N, .inl (jm_upd l j.toNatClampNeg (vp_nar .boolean w))) : jm_c) = sy_dc F (.inl (2, N, z)) := by simp only [sy_dc, hd]; rfl
                rw [this, sy_st_ok hg]
                rfl
            · cases h
          · cases h
        · cases h
      · cases h
    · cases h
  · split at h
    · rename_i hn
      subst hn
      split at h
      · rename_i v i a r
        split at h
        · rename_i kd N c hg
          split at h
          · rename_i hc
            split at h
            · rename_i P1 hbd
              cases h
              obtain ⟨k1, k2⟩ := sy_bd_ok hbd
              obtain ⟨⟨z, T1⟩, hz⟩ : ∃ z, sy_wr nv c i v x.1 = z := ⟨_, rfl⟩
              rw [hz]
              refine ⟨sy_wr_pre hz, k1, fun F X1 X2 r2 hs hp => jm_step_d2 rfl rfl rfl rfl rfl ?_⟩
              obtain ⟨j, hj, ho⟩ := k2 F hp
              obtain ⟨l, hl⟩ := sy_ak1 (F := F) hc.2.1
              obtain ⟨w, hw⟩ := sy_ty1 (F := F) hc.2.2
              have hd := sy_wr_ok hz hs
              rw [hl, hj, hw] at hd
              show jm_d2 M Ls xs bc bs _ pc (sy_dL F L) (sy_dv F v :: sy_dv F i :: .ref a :: sy_dS F r) _ q = _
              rw [hj, hw]
              simp only [jm_d2, sy_gt_ok hg, sy_dc, hl, if_pos hc.1, if_pos]
              refine sy_bif ho ?_
              have : (.inl (3, N, .inr (jm_updL l j.toNatClampNeg w)) : jm_c) = sy_dc F (.inl (3, N, z)) := by simp only [sy_dc, hd]; rfl
              rw [this, sy_st_ok hg]
              rfl
            · cases h
          · cases h
        · cases h
      · cases h
    · cases h
  · split at h
    · rename_i hn
      subst hn
      split at h
      · rename_i a r
        split at h
        · cases h
        · rename_i ha8
          split at h
          · rename_i kd N c hg
            split at h
            · rename_i hk
              cases h
              refine ⟨⟨[], (List.append_nil _).symm⟩, ⟨[], (List.append_nil _).symm⟩, fun F X1 X2 r2 hs hp => jm_step_d2 rfl rfl rfl rfl rfl ?_⟩
              show jm_d2 M Ls xs bc bs _ pc (sy_dL F L) (.ref a :: sy_dS F r) _ q = _
              simp only [jm_d2, if_neg ha8, sy_gt_ok hg, sy_dc, if_pos hk, if_pos]
              rfl
            · cases h
          · cases h
      · cases h
    · cases h
  · rename_i k d
    split at h
    · rename_i hn
      split at h
      · rename_i v hv
        split at h
        · rename_i ht
          cases h
          obtain ⟨⟨z, T1⟩, hz⟩ : ∃ z, sy_a2 nv 0 0 v (.inl (.int (Int32.ofInt d))) x.1 = z := ⟨_, rfl⟩
          rw [hz]
          refine ⟨sy_a2_pre hz, ⟨[], (List.append_nil _).symm⟩, fun F X1 X2 r2 hs hp => jm_step_a2 rfl rfl (by unfold jm_b1; split <;> rfl) rfl ?_⟩
          obtain ⟨a, ha⟩ := sy_ty0 (F := F) ht
          have hd := sy_a2_ok (F := F) hz hs (Or.inl ⟨rfl, by rw [ha]; exact ⟨_, rfl⟩⟩)
          rw [ha] at hd
          simp only [jm_a2, sy_ld_ok, hv, Option.map_some, ha, if_pos hn]
          have : Value.int (a + Int32.ofInt d) = sy_dv F z := hd.symm
          rw [this, sy_st1_ok]
          rfl
        · cases h
      · cases h
    · cases h
  · rename_i idx
    split at h
    · rename_i hn
      split at h
      · rename_i nn dp a1 sp a0 r
        split at h
        · rename_i k0 n0 f k1 n1 g hg0 hg1
          split at h
          · rename_i hc
            have fin : ∀ (F : Nat → sy_d) (X1 X2 : List jm_c) (z : sy_a), sy_da F z = sy_cp (sy_da F f) (sy_da F g) (.int sp) (.int dp) (.int nn) → jm_step M Ls xs bc bs (.invokestatic idx, n, la, lb, po) pc (sy_dL F L) (sy_dS F (.inl (.int nn) :: .inl (.int dp) :: .inl (.ref a1) :: .inl (.int sp) :: .inl (.ref a0) :: r)) (sy_dh F X1 X2 G) q = some (sy_ds F X1 X2 (pc + 3, L, r, sy_st G a1 (.inl (0, n1, z)), q)) := by
              intro F X1 X2 z hzz
              obtain ⟨lf, hlf⟩ := sy_ak0 (F := F) hc.1.2.2.1
              obtain ⟨lg, hlg⟩ := sy_ak0 (F := F) hc.1.2.2.2
              rw [hlf, hlg] at hzz
              refine jm_step_d3 rfl rfl (by unfold jm_b1; split <;> rfl) rfl rfl rfl (by unfold jm_b2; split <;> rfl) ?_
              show jm_d3 _ pc (sy_dL F L) (.int nn :: .int dp :: .ref a1 :: .int sp :: .ref a0 :: sy_dS F r) _ q = _
              have hcs : jm_cs (sy_dS F r) ≤ 8 := by
                have : jm_cs (sy_dS F r) = (r.map sy_cat).sum := by
                  unfold jm_cs sy_dS
                  rw [List.map_map]
                  congr 1
                  exact List.map_congr_left (fun w _ => sy_cat_ok F w)
                rw [this]
                exact hc.2.2.2
              have hcond : (k0 = 0 ∧ k1 = 0) ∧ (¬ sp < 0 ∧ ¬ dp < 0 ∧ ¬ nn < 0) ∧ (sp.toNatClampNeg + nn.toNatClampNeg ≤ n0 ∧ dp.toNatClampNeg + nn.toNatClampNeg ≤ n1) ∧ jm_cs (sy_dS F r) ≤ 8 := ⟨⟨hc.1.1, hc.1.2.1⟩, hc.2.1, hc.2.2.1, hcs⟩
              simp only [jm_d3, if_pos hn, sy_gt_ok hg0, sy_gt_ok hg1, sy_dc, hlf, hlg, if_pos hcond]
              have : (.inl (0, n1, .inl (jm_cpy lf lg sp.toNatClampNeg dp.toNatClampNeg nn.toNatClampNeg)) : jm_c) = sy_dc F (.inl (0, n1, z)) := by simp only [sy_dc, hzz]; rfl
              rw [this, sy_st_ok hg1]
              rfl
            split at h
            · cases h
              exact ⟨⟨[], (List.append_nil _).symm⟩, ⟨[], (List.append_nil _).symm⟩, fun F X1 X2 r2 hs hp => fin F X1 X2 _ rfl⟩
            · cases h
              refine ⟨⟨_, rfl⟩, ⟨[], (List.append_nil _).symm⟩, fun F X1 X2 r2 hs hp => fin F X1 X2 _ ?_⟩
              have he := sy_sat_last hs
              obtain ⟨lf, hlf⟩ := sy_ak0 (F := F) hc.1.2.2.1
              obtain ⟨lg, hlg⟩ := sy_ak0 (F := F) hc.1.2.2.2
              have hsem : sy_sem F (42, [.inl (.int sp), .inl (.int dp), .inl (.int nn)], [f, g]) = .inr (sy_cp (sy_da F f) (sy_da F g) (.int sp) (.int dp) (.int nn)) := rfl
              rw [hsem, hlf, hlg] at he
              rw [hlf, hlg]
              simp only [sy_da, sy_ai, he, sy_cp]
          · cases h
        · cases h
      · cases h
    · cases h
  · cases h
end SY5
def sy_step (nv : Nat) (M : jm_M) (e : jm_I) (pc : Nat) (L : List (Option sy_v)) (S : List sy_v) (G : sy_h) (q : Nat × Nat) (x : sy_x) : Option (sy_St × sy_x) :=
  match sy_1 (jm_mx M) e.1 e.2.1 pc L S G q with
  | some r => some (r, x)
  | none => match sy_4 nv e pc L S G q x with
    | some r => some r
    | none => match sy_2 nv e.1 e.2.1 pc L S G q x with
      | some r => some r
      | none => match sy_3 e.1 e.2.1 pc L S G q x with
        | some r => some r
        | none => sy_5 nv (jm_mx M) e pc L S G q x
theorem sy_step_ok {M : jm_M} {Ls : Nat} {xs : Nat → Int32} {bc bs : Nat} {i : jm_I} {pc nv : Nat} {L : List (Option sy_v)} {S : List sy_v} {G : sy_h} {q : Nat × Nat} {st : sy_St} {x y : sy_x} (h : sy_step nv M i pc L S G q x = some (st, y)) : (∃ r, y.1 = x.1 ++ r) ∧ (∃ r, y.2.1 = x.2.1 ++ r) ∧ ∀ (F : Nat → sy_d) (X1 X2 : List jm_c) (r : List sy_e), sy_sat F nv (y.1 ++ r) → (∀ p ∈ y.2.1, sy_ps F p) →
    jm_step M Ls xs bc bs i pc (sy_dL F L) (sy_dS F S) (sy_dh F X1 X2 G) q = some (sy_ds F X1 X2 st) := by
  obtain ⟨ins, n, la, lb, po⟩ := i
  unfold sy_step at h
  split at h
  · rename_i r h1
    cases h
    exact ⟨⟨[], (List.append_nil _).symm⟩, ⟨[], (List.append_nil _).symm⟩, fun F X1 X2 r hs hp => sy_1_ok h1⟩
  · split at h
    · rename_i r h1
      cases h
      obtain ⟨k1, k2, k3⟩ := sy_4_ok (M := M) (Ls := Ls) (xs := xs) (bc := bc) (bs := bs) h1
      exact ⟨k1, k2, fun F X1 X2 r hs hp => k3 F X1 X2 hp⟩
    · split at h
      · rename_i r h1
        cases h
        exact sy_2_ok h1
      · split at h
        · rename_i r h1
          cases h
          obtain ⟨k1, k2, k3⟩ := sy_3_ok (M := M) (Ls := Ls) (xs := xs) (bc := bc) (bs := bs) (la := la) (lb := lb) (po := po) h1
          exact ⟨k1, k2, fun F X1 X2 r hs hp => k3 F X1 X2 hp⟩
        · exact sy_5_ok h
