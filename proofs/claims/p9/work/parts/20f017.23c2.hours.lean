/-! ===== the reference: an hour, hours ===== -/
abbrev W9 : List Nat := [17, 19, 52, 53, 55, 56, 57, 58, 59]
/-- the mark of a sale; N how much was sold -/
def sfS (F : Nat → sy_d) (N0 N : Nat) : Prop := ((sy_i F 19).toInt = 1 ∧ N0 < N) ∨ ((sy_i F 19).toInt = 0 ∧ N = N0)
theorem sfS_e {F F1 : Nat → sy_d} {N0 N : Nat} (h : sfS F N0 N) (e : F1 19 = F 19) : sfS F1 N0 N := by
  unfold sfS
  rw [nz_fi e]
  exact h
section HG
variable {Ls : Nat} {xs : Nat → Int32} {T : tX} {g : gS} {sd : Int32} (F : Nat → sy_d) (X1 X2 : List jm_c)
noncomputable def hgP (T : tX) (sd : Int32) (g : gS) (F F' : Nat → sy_d) : Prop := qR W9 F F' ∧ gRow T F' (hourS T sd g) ∧ sfS F' (nmS g 2 (nfS T)) (nmS (hourS T sd g) 2 (nfS T))
theorem hg_50 (hC : cR T F) (hO : okS T g) : ∀ (m : Nat) (F1 : Nat → sy_d) (n : Nat), n + m = nfS T → qR W9 F F1 → (∀ j, j < nfS T → lkS T sd g F1 j) → (sy_i F1 69).toInt = n → gRow T F1 (znS n (p2S T sd g n)) → sfS F1 (nmS g 2 (nfS T)) (nmS (p2S T sd g n) 2 (nfS T)) →
    hd_W Ls xs 7 jm_M192 (pV 4 X1 X2 (hgP T sd g F)) (50, sy_dL F1 [some (.inl (.ref 1000)), some (.inr (.inl 69))], sy_dS F1 [], sy_dh F1 X1 X2 (iv_H 4), 0, 0) := by
  have l7 : nfS T ≤ 7 := hC.2.2.1.1
  have l4 : nbS T ≤ 4 := hC.2.2.1.2.1
  have en31 : ((sy_ai F 31).getD (sy_i F 11).toInt.toNat 0).toInt = (nfS T : Int) := (rX_n hC.2.1).1
  intro m
  induction m with
  | zero =>
    intro F1 n hm hq hj e69 hG hS
    have e31 : ((sy_ai F1 31).getD (sy_i F1 11).toInt.toNat 0).toInt = (nfS T : Int) := by rw [qq_a hq (by decide) (by decide), qq_i hq (j := 11) (by decide) (by decide)]; exact en31
    have hn : n = nfS T := by omega
    subst hn
    have g0 : gRow T F1 (zsS (p2S T sd g (nfS T))) := fun a i hv => by
      rw [hG a i hv]
      unfold znS zsS
      by_cases z : a = 6
      · rw [if_pos z, if_pos]
        refine ⟨z, ?_⟩
        rcases hv with h | h | h <;> omega
      · rw [if_neg z, if_neg (fun w => z w.1)]
    refine yhg_50 (by decide) F1 X1 X2 hq.1 (by omega) ?_ ?_ ?_
    · intro c0 F2 hb gg a55
      refine ⟨F2, rfl, rfl, qq_on hq hb gg (by decide), ?_, ?_⟩
      · have e57 : (sy_ai F1 55).getD (57 : Int).toNat 0 = g 9 0 := by
          have := g0 9 0 (vH (by decide))
          have k : zsS (p2S T sd g (nfS T)) 9 0 = g 9 0 := by
            unfold zsS
            rw [if_neg (by decide)]
            exact p2_k _ _ _ (by omega)
          rw [k] at this
          exact this
        rw [e57] at a55
        unfold gRow
        rw [a55]
        exact gL_up l7 l4 g0 (vH (by decide)) rfl
      · refine sfS_e ?_ (gg 19 (by decide) (by decide))
        rw [nm_cg (g := hourS T sd g) (g' := p2S T sd g (nfS T)) (nfS T) (fun i _ => hourS_o (by decide) (Or.inl (by decide)))]
        exact hS
    · intros
      omega
    · intros
      omega
  | succ m ih =>
    intro F1 n hm hq hj e69 hG hS
    have hn : n < nfS T := by omega
    have e31 : ((sy_ai F1 31).getD (sy_i F1 11).toInt.toNat 0).toInt = (nfS T : Int) := by rw [qq_a hq (by decide) (by decide), qq_i hq (j := 11) (by decide) (by decide)]; exact en31
    obtain ⟨k1, k2, k3, k4⟩ := hj n hn
    have en : (sy_i F1 69).toInt.toNat = n := by omega
    -- behind what falls: the ripeness, none shaken
    have fin : ∀ (F2 : Nat → sy_d) (gd : gS), qR W9 F F2 → (∀ j, j < nfS T → lkS T sd g F2 j) → (sy_i F2 69).toInt = n → gRow T F2 (znS n gd) → sfS F2 (nmS g 2 (nfS T)) (nmS (p2S T sd g (n + 1)) 2 (nfS T)) → (p2S T sd g (n + 1) = gd ∧ gd 1 n = (sy_ai F2 57).getD n 0 ∨ p2S T sd g (n + 1) = upS gd 1 n ((sy_ai F2 57).getD n 0)) →
        hd_W Ls xs 7 jm_M192 (pV 4 X1 X2 (hgP T sd g F)) (77, sy_dL F2 [some (.inl (.ref 1000)), some (.inr (.inl 69))], sy_dS F2 [], sy_dh F2 X1 X2 (iv_H 4), 0, 0) := fun F2 gd hq2 hj2 f69 hG2 hS2 hgd => by
      have n7 : (7 + (sy_i F2 69).toInt).toNat = ra 1 + n := by show _ = 7 + n; omega
      have n42 : (42 + (sy_i F2 69).toInt).toNat = ra 6 + n := by show _ = 42 + n; omega
      have en2 : (sy_i F2 69).toInt.toNat = n := by omega
      refine yhg_77 (by decide) F2 X1 X2 hq2.1 (by omega) ?_
      intro F3 hb gg a55 f69' i69
      rw [n7, n42, en2] at a55
      refine ih F3 (n + 1) (by omega) (qq_on hq2 hb gg (by decide)) (fun j h => lk_eq (hj2 j h) ⟨?_, ?_, ?_, ?_⟩) (by omega) ?_ (sfS_e hS2 (gg 19 (by decide) (by decide)))
      · rw [nz_fa (gg 56 (by decide) (by decide))]
      · rw [nz_fa (gg 57 (by decide) (by decide))]
      · rw [nz_fa (gg 58 (by decide) (by decide))]
      · rw [nz_fa (gg 59 (by decide) (by decide))]
      · have h1 : gL (nfS T) (nbS T) (jm_upd (sy_ai F2 55) (ra 1 + n) ((sy_ai F2 57).getD n 0)) (znS n (p2S T sd g (n + 1))) := by
          rcases hgd with ⟨w1, w2⟩ | w
          · rw [w1]
            exact gL_sm l7 l4 hG2 (vF (by decide) hn) rfl (by rw [znS_o (Or.inl (by decide))]; exact w2.symm)
          · rw [w, ← znS_up (by decide)]
            exact gL_up l7 l4 hG2 (vF (by decide) hn) rfl
        have h2 := gL_up (v := 0) l7 l4 h1 (vF (a := 6) (i := n) (by decide) hn) rfl
        unfold gRow
        rw [a55]
        intro a i hv
        rw [h2 a i hv]
        by_cases z : a = 6 ∧ i = n
        · obtain ⟨z1, z2⟩ := z
          subst z1
          subst z2
          rw [upS_s]
          exact (if_pos ⟨rfl, by omega⟩).symm
        · rw [upS_o (by omega)]
          unfold znS
          by_cases y : a = 6 ∧ i < n
          · rw [if_pos y, if_pos ⟨y.1, by omega⟩]
          · rw [if_neg y, if_neg (by omega)]
    have how : p2S T sd g n 2 n = p1S T g (nfS T) 2 n := p2_s n 2 n (Nat.le_refl _) (by decide)
    have hp2 : p2S T sd g (n + 1) = stS T sd g (p2S T sd g n) n := rfl
    have rp : p2S T sd g n 1 n = g 1 n := by
      rw [p2_s n 1 n (Nat.le_refl _) (by decide)]
      exact p1_k _ _ _ (by omega)
    refine yhg_50 (by decide) F1 X1 X2 hq.1 (by omega) ?_ ?_ ?_
    · intros
      omega
    · intro c0 c1 F2 hb gg f69 i69
      rw [en, k1] at c1
      have hnf : ¬ ((g 2 n).toInt = 0 ∧ (lotS sd ((16 : Int32) * g 9 0 + Int32.ofInt n)).toInt < flS T g n) := fun z => by
        rw [if_pos z] at c1
        exact absurd c1 (by decide)
      have a57 : (sy_ai F2 57).getD n 0 = (sy_ai F1 57).getD n 0 := by rw [nz_fa (gg 57 (by decide) (by decide))]
      have hst : p2S T sd g (n + 1) = p2S T sd g n ∧ p2S T sd g n 1 n = (sy_ai F2 57).getD n 0 ∨ p2S T sd g (n + 1) = upS (p2S T sd g n) 1 n ((sy_ai F2 57).getD n 0) := by
        rw [a57, k2, hp2]
        unfold stS
        by_cases z : (g 2 n).toInt = 0
        · right
          rw [if_pos z, if_neg (fun w => hnf ⟨z, w⟩), if_pos ⟨z, fun w => hnf ⟨z, w⟩⟩]
        · left
          rw [if_neg z, if_neg (fun w => z w.1)]
          exact ⟨rfl, rp⟩
      refine fin F2 (p2S T sd g n) (qq_on hq hb gg (by decide)) (fun j h => lk_eq (hj j h) ⟨?_, ?_, ?_, ?_⟩) (by omega) (gRow_e hG (nz_fa (gg 55 (by decide) (by decide)))) ?_ hst
      · rw [nz_fa (gg 56 (by decide) (by decide))]
      · rw [nz_fa (gg 57 (by decide) (by decide))]
      · rw [nz_fa (gg 58 (by decide) (by decide))]
      · rw [nz_fa (gg 59 (by decide) (by decide))]
      · refine sfS_e ?_ (gg 19 (by decide) (by decide))
        have : nmS (p2S T sd g (n + 1)) 2 (nfS T) = nmS (p2S T sd g n) 2 (nfS T) := nm_cg _ (fun i _ => by
          rcases hst with ⟨w, -⟩ | w
          · rw [w]
          · rw [w, upS_o (Or.inl (by decide))])
        rw [this]
        exact hS
    · intro c0 c1 F2 hb gg f69 i69
      rw [en, k1] at c1
      have hf : (g 2 n).toInt = 0 ∧ (lotS sd ((16 : Int32) * g 9 0 + Int32.ofInt n)).toInt < flS T g n := by
        by_cases z : (g 2 n).toInt = 0 ∧ (lotS sd ((16 : Int32) * g 9 0 + Int32.ofInt n)).toInt < flS T g n
        · exact z
        · rw [if_neg z] at c1
          exact absurd (by decide) c1
      obtain ⟨h0, hl⟩ := hf
      have q2 : qR W9 F F2 := qq_on hq hb gg (by decide)
      have en2 : (sy_i F2 69).toInt.toNat = n := by omega
      have w58 := k3 (by omega)
      have w59 := k4 h0
      have hx : znS n (p2S T sd g n) 0 n = Int32.ofInt (tF T n).1 := by
        rw [znS_o (Or.inl (by decide)), p2_s n 0 n (Nat.le_refl _) (by decide), p1_k _ _ _ (by omega)]
        exact (hO.2.1 n hn h0).2
      have hO2 : okS T (znS n (p2S T sd g n)) := by
        refine ⟨fun b hb => ?_, fun f hf z => ?_, fun f hf => ?_, ?_⟩
        · rw [znS_o (Or.inl (by decide)), p2_k _ _ _ (by omega)]
          exact hO.1 b hb
        · rw [znS_o (Or.inl (by decide))] at z
          obtain ⟨y1, y2, y3⟩ := (p2_h n f).1 z
          rw [znS_o (Or.inl (by decide)), znS_o (Or.inl (by decide)), y2, y3]
          exact hO.2.1 f hf y1
        · rw [znS_o (Or.inl (by decide))]
          exact (p2_h n f).2 (hO.2.2.1 f hf)
        · rw [znS_o (Or.inl (by decide)), znS_o (Or.inl (by decide)), p2_k _ _ _ (by omega), p2_k _ _ _ (by omega)]
          exact hO.2.2.2
      have how0 : (p2S T sd g n 2 n).toInt = 0 := by
        rw [how]
        exact (p1_h (nfS T) n).1.mpr h0
      refine hd_calV (R := fun F' => qR [19, 55] F2 F' ∧ gRow T F' (fallS T (znS n (p2S T sd g n)) (sy_i F2 69).toInt.toNat (Int32.ofInt (woS T g n)) (Int32.ofInt (bnS T g n)).toInt) ∧ (0 ≤ (nrS T (znS n (p2S T sd g n)) (tF T (sy_i F2 69).toInt.toNat).1 (Int32.ofInt (woS T g n)).toInt (nbS T)).1 → (sy_i F' 19).toInt = 1) ∧ ((nrS T (znS n (p2S T sd g n)) (tF T (sy_i F2 69).toInt.toNat).1 (Int32.ofInt (woS T g n)).toInt (nbS T)).1 < 0 → F' 19 = F2 19)) (nh := 69) (nv := 70) (s := 4) (s1 := 4) (d1 := 3) (M1 := jm_M191) (As := [.inl (.ref 1000), .inr (.inl 69)]) (rest := []) jm_ok192 rfl rfl (by decide) (by decide +kernel) (fa_V F2 X1 X2 (cR_q hC q2 (by decide)) (gRow_e hG (nz_fa (gg 55 (by decide) (by decide)))) hO2 (by show 0 ≤ _ ∧ _ < (nfS T : Int); omega) (by rw [en2]; exact hx) (by rw [en2, nz_fa (gg 58 (by decide) (by decide))]; exact w58) (by rw [en2, nz_fa (gg 59 (by decide) (by decide))]; exact w59)) (fun F3 F' hR p1 p2 => ?_)
      obtain ⟨r1, r2, r3, r4⟩ := hR
      rw [en2] at r2 r3 r4
      have eb : (Int32.ofInt (bnS T g n)).toInt = bnS T g n := by
        have := lwT_in T 4 (vrs (g 1 n) (Int32.ofInt (tF T n).2.1) (g 9 0) 0 (Int32.ofInt (tF T n).1) 0 0 0 (lfS T g))
        have hb1 : -9 ≤ bnS T g n ∧ bnS T g n ≤ 9 := this
        rw [Int32.toInt_ofInt_of_le (by omega) (by omega)]
      rw [eb, znS_fall] at r2
      have enr := nr_cg (T := T) (g := znS n (p2S T sd g n)) (g' := p2S T sd g n) (x := (tF T n).1) (c := (Int32.ofInt (woS T g n)).toInt) (fun i => znS_o (Or.inl (by decide))) (fun i => znS_o (Or.inl (by decide))) (nbS T)
      rw [enr] at r3 r4
      have r1' : qR [19, 55] F2 F3 := qR_dst r1 p1
      have hst : p2S T sd g (n + 1) = fallS T (p2S T sd g n) n (Int32.ofInt (woS T g n)) (bnS T g n) := by
        rw [hp2]
        unfold stS
        rw [if_pos h0, if_pos hl]
      refine fin F3 _ (qq_trans q2 (qq_up r1' (by decide))) (fun j h => lk_eq (hj j h) ⟨?_, ?_, ?_, ?_⟩) (by rw [nz_fi (p2 69 (by decide) (by decide))]; omega) (gRow_e r2 (nz_fa (p1 55 (by decide)))) ?_ (Or.inl ⟨hst, ?_⟩)
      · rw [qq_a r1' (by decide) (by decide), nz_fa (gg 56 (by decide) (by decide))]
      · rw [qq_a r1' (by decide) (by decide), nz_fa (gg 57 (by decide) (by decide))]
      · rw [qq_a r1' (by decide) (by decide), nz_fa (gg 58 (by decide) (by decide))]
      · rw [qq_a r1' (by decide) (by decide), nz_fa (gg 59 (by decide) (by decide))]
      · obtain ⟨m1, m2⟩ := nm_fall (T := T) (g := p2S T sd g n) (f := n) (c := Int32.ofInt (woS T g n)) (bn := bnS T g n) hn how0
        have e19 : (sy_i F3 19).toInt = (sy_i F' 19).toInt := nz_fi (p1 19 (by decide))
        have e19b : (sy_i F2 19).toInt = (sy_i F1 19).toInt := nz_fi (gg 19 (by decide) (by decide))
        rw [hst]
        by_cases z : 0 ≤ (nrS T (p2S T sd g n) (tF T n).1 (Int32.ofInt (woS T g n)).toInt (nbS T)).1
        · rw [m1 z]
          left
          refine ⟨by rw [e19]; exact r3 z, ?_⟩
          rcases hS with ⟨-, s2⟩ | ⟨-, s2⟩ <;> omega
        · rw [m2 (by omega)]
          have := nz_fi (r4 (by omega))
          rcases hS with ⟨s1, s2⟩ | ⟨s1, s2⟩
          · exact Or.inl ⟨by omega, s2⟩
          · exact Or.inr ⟨by omega, s2⟩
      · rw [fallS_o (Or.inl (by decide)) (by decide), rp, qq_a r1' (by decide) (by decide), nz_fa (gg 57 (by decide) (by decide)), k2, if_neg (fun w => w.2 hl)]
end HG
