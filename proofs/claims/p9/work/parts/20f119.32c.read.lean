/-! ===== what reading leaves ===== -/
theorem kx_read0 {R : tX × gS × List gS × (Nat → gS) × (Nat → Int32 × Int32)} {F : Nat → sy_d} {X2 : List jm_c} (h : xZ 0 (ox F, R) F) {v : Option Value} {G : jm_h} (hP : j0rdP [] X2 F (ub (sy_ai F 2) (sy_i F 0).toInt.toNat) (sy_i F 0).toInt.toNat v G) : (∃ r : Int32, v = some (.int r) ∧ r.toInt = a_read (ox F)) ∧ oz1 X2 (t_read (ox F, R)) G := by
  obtain ⟨r, t, F', rfl, rfl, e1, b1, j1, w1, e0, ep, hf, hs⟩ := hP
  refine ⟨⟨r, rfl, e1⟩, ?_⟩
  by_cases q : (rdA (ub (sy_ai F 2) (sy_i F 0).toInt.toNat) (sy_i F 0).toInt.toNat).1 = 0
  · obtain ⟨et, c1, g1, r1, u75, u74, d79, z78⟩ := hs q
    subst et
    have q' : (rdA (ox F).2.1 (ox F).1.toNat).1 = 0 := q
    have e2 : t_read (ox F, R) = ((0, (fun _ => 0), (rdA (ox F).2.1 (ox F).1.toNat).2, 0, fun _ => 0), rdT (ox F).2.1 (ox F).1.toNat, begS (rdT (ox F).2.1 (ox F).1.toNat), [], R.2.2.2) := by
      unfold t_read
      rw [if_pos q']
      show (s_read (ox F), _) = _
      unfold s_read
      rw [if_pos q']
    rw [e2]
    exact ⟨2, F', by decide, dh_x F' [] X2 (by decide), ⟨⟨j1, w1, ox0_mk e0 ub_z ep d79 (hl_z z78)⟩, c1, g1, ⟨0, by decide, Nat.zero_le _, u74, u75, trivial⟩, fun k hk hz => absurd (by rw [z78 k hk]; decide) hz, fun i hi => absurd (show (i : Int) < 0 from hi) (by omega), r1⟩⟩
  · obtain ⟨et, fr⟩ := hf q
    subst et
    have q' : ¬ (rdA (ox F).2.1 (ox F).1.toNat).1 = 0 := q
    have e2 : t_read (ox F, R) = ((0, (fun _ => 0), (rdA (ox F).2.1 (ox F).1.toNat).2, (ox F).2.2.2), R) := by
      unfold t_read
      rw [if_neg q']
      show (s_read (ox F), R) = _
      unfold s_read
      rw [if_neg q']
    rw [e2]
    have q1 : qC (0 :: 1 :: 39 :: 40 :: 41 :: 35 :: k0_WP) F F' := ⟨b1, fr⟩
    obtain ⟨-, h4, h5, h6, h7, h8, h9⟩ := h
    exact ⟨0, F', by decide, dh_x F' [] X2 (by decide), ⟨⟨j1, w1, ox0_mk e0 ub_z ep (nz_fi (fr 79 (by decide) (by decide))) (by rw [nz_fa (fr 78 (by decide) (by decide))])⟩, xC_q (by decide) h4 q1 (by decide), gC_eq h5 (fun j h1 h2 => fr j (by omega) (by intro z; simp [k0_WP] at z; omega)), trC_eq h6 (fr 74 (by decide) (by decide)) (fr 75 (by decide) (by decide)) (fr 76 (by decide) (by decide)), hlC_eq h7 (fr 77 (by decide) (by decide)) (fr 78 (by decide) (by decide)), by rw [nz_fa (fr 80 (by decide) (by decide)), nz_fa (fr 81 (by decide) (by decide))]; exact h8, fun f hf => (congrArg (fun l : List Int32 => l.getD f 0) (nz_fa (fr (3 + 9) (by decide) (by decide)))).trans (h9 f hf)⟩⟩
theorem kx_read1 {R : tX × gS × List gS × (Nat → gS) × (Nat → Int32 × Int32)} {F : Nat → sy_d} {X2 : List jm_c} (h : xZ 1 (ox F, R) F) {v : Option Value} {G : jm_h} (hP : j1rdP [] X2 F (ub (sy_ai F 2) (sy_i F 0).toInt.toNat) (sy_i F 0).toInt.toNat v G) : (∃ r : Int32, v = some (.int r) ∧ r.toInt = a_read (ox F)) ∧ oz1 X2 (t_read (ox F, R)) G := by
  obtain ⟨r, t, F', rfl, rfl, e1, b1, j1, w1, e0, ep, hf, hs⟩ := hP
  refine ⟨⟨r, rfl, e1⟩, ?_⟩
  by_cases q : (rdA (ub (sy_ai F 2) (sy_i F 0).toInt.toNat) (sy_i F 0).toInt.toNat).1 = 0
  · obtain ⟨et, c1, g1, r1, u75, u74, d79, z78⟩ := hs q
    subst et
    have q' : (rdA (ox F).2.1 (ox F).1.toNat).1 = 0 := q
    have e2 : t_read (ox F, R) = ((0, (fun _ => 0), (rdA (ox F).2.1 (ox F).1.toNat).2, 0, fun _ => 0), rdT (ox F).2.1 (ox F).1.toNat, begS (rdT (ox F).2.1 (ox F).1.toNat), [], R.2.2.2) := by
      unfold t_read
      rw [if_pos q']
      show (s_read (ox F), _) = _
      unfold s_read
      rw [if_pos q']
    rw [e2]
    exact ⟨2, F', by decide, dh_x F' [] X2 (by decide), ⟨⟨j1, w1, ox0_mk e0 ub_z ep d79 (hl_z z78)⟩, c1, g1, ⟨0, by decide, Nat.zero_le _, u74, u75, trivial⟩, fun k hk hz => absurd (by rw [z78 k hk]; decide) hz, fun i hi => absurd (show (i : Int) < 0 from hi) (by omega), r1⟩⟩
  · obtain ⟨et, fr⟩ := hf q
    subst et
    have q' : ¬ (rdA (ox F).2.1 (ox F).1.toNat).1 = 0 := q
    have e2 : t_read (ox F, R) = ((0, (fun _ => 0), (rdA (ox F).2.1 (ox F).1.toNat).2, (ox F).2.2.2), R) := by
      unfold t_read
      rw [if_neg q']
      show (s_read (ox F), R) = _
      unfold s_read
      rw [if_neg q']
    rw [e2]
    have q1 : qC (0 :: 1 :: 39 :: 40 :: 41 :: 35 :: k0_WP) F F' := ⟨b1, fr⟩
    obtain ⟨-, h4, h5, h6, h7, h8, h9⟩ := h
    exact ⟨0, F', by decide, dh_x F' [] X2 (by decide), ⟨⟨j1, w1, ox0_mk e0 ub_z ep (nz_fi (fr 79 (by decide) (by decide))) (by rw [nz_fa (fr 78 (by decide) (by decide))])⟩, xC_q (by decide) h4 q1 (by decide), gC_eq h5 (fun j h1 h2 => fr j (by omega) (by intro z; simp [k0_WP] at z; omega)), trC_eq h6 (fr 74 (by decide) (by decide)) (fr 75 (by decide) (by decide)) (fr 76 (by decide) (by decide)), hlC_eq h7 (fr 77 (by decide) (by decide)) (fr 78 (by decide) (by decide)), by rw [nz_fa (fr 80 (by decide) (by decide)), nz_fa (fr 81 (by decide) (by decide))]; exact h8, fun f hf => (congrArg (fun l : List Int32 => l.getD f 0) (nz_fa (fr (3 + 9) (by decide) (by decide)))).trans (h9 f hf)⟩⟩
theorem kx_read2 {R : tX × gS × List gS × (Nat → gS) × (Nat → Int32 × Int32)} {F : Nat → sy_d} {X2 : List jm_c} (h : xZ 2 (ox F, R) F) {v : Option Value} {G : jm_h} (hP : j2rdP [] X2 F (ub (sy_ai F 2) (sy_i F 0).toInt.toNat) (sy_i F 0).toInt.toNat v G) : (∃ r : Int32, v = some (.int r) ∧ r.toInt = a_read (ox F)) ∧ oz1 X2 (t_read (ox F, R)) G := by
  obtain ⟨r, t, F', rfl, rfl, e1, b1, j1, w1, e0, ep, hf, hs⟩ := hP
  refine ⟨⟨r, rfl, e1⟩, ?_⟩
  by_cases q : (rdA (ub (sy_ai F 2) (sy_i F 0).toInt.toNat) (sy_i F 0).toInt.toNat).1 = 0
  · obtain ⟨et, c1, g1, r1, u75, u74, d79, z78⟩ := hs q
    subst et
    have q' : (rdA (ox F).2.1 (ox F).1.toNat).1 = 0 := q
    have e2 : t_read (ox F, R) = ((0, (fun _ => 0), (rdA (ox F).2.1 (ox F).1.toNat).2, 0, fun _ => 0), rdT (ox F).2.1 (ox F).1.toNat, begS (rdT (ox F).2.1 (ox F).1.toNat), [], R.2.2.2) := by
      unfold t_read
      rw [if_pos q']
      show (s_read (ox F), _) = _
      unfold s_read
      rw [if_pos q']
    rw [e2]
    exact ⟨1, F', by decide, dh_x F' [] X2 (by decide), ⟨⟨j1, w1, ox0_mk e0 ub_z ep d79 (hl_z z78)⟩, c1, g1, ⟨0, by decide, Nat.zero_le _, u74, u75, trivial⟩, fun k hk hz => absurd (by rw [z78 k hk]; decide) hz, fun i hi => absurd (show (i : Int) < 0 from hi) (by omega), r1⟩⟩
  · obtain ⟨et, fr⟩ := hf q
    subst et
    have q' : ¬ (rdA (ox F).2.1 (ox F).1.toNat).1 = 0 := q
    have e2 : t_read (ox F, R) = ((0, (fun _ => 0), (rdA (ox F).2.1 (ox F).1.toNat).2, (ox F).2.2.2), R) := by
      unfold t_read
      rw [if_neg q']
      show (s_read (ox F), R) = _
      unfold s_read
      rw [if_neg q']
    rw [e2]
    have q1 : qC (0 :: 1 :: 39 :: 40 :: 41 :: 35 :: k3_WP) F F' := ⟨b1, fr⟩
    obtain ⟨-, h4, h5, h6, h7, h8, h9⟩ := h
    exact ⟨3, F', by decide, dh_x F' [] X2 (by decide), ⟨⟨j1, w1, ox0_mk e0 ub_z ep (nz_fi (fr 79 (by decide) (by decide))) (by rw [nz_fa (fr 78 (by decide) (by decide))])⟩, xC_q (by decide) h4 q1 (by decide), gC_eq h5 (fun j h1 h2 => fr j (by omega) (by intro z; simp [k3_WP] at z; omega)), trC_eq h6 (fr 74 (by decide) (by decide)) (fr 75 (by decide) (by decide)) (fr 76 (by decide) (by decide)), hlC_eq h7 (fr 77 (by decide) (by decide)) (fr 78 (by decide) (by decide)), by rw [nz_fa (fr 80 (by decide) (by decide)), nz_fa (fr 81 (by decide) (by decide))]; exact h8, fun f hf => (congrArg (fun l : List Int32 => l.getD f 0) (nz_fa (fr (18 + 9) (by decide) (by decide)))).trans (h9 f hf)⟩⟩
theorem kx_read3 {R : tX × gS × List gS × (Nat → gS) × (Nat → Int32 × Int32)} {F : Nat → sy_d} {X2 : List jm_c} (h : xZ 3 (ox F, R) F) {v : Option Value} {G : jm_h} (hP : j3rdP [] X2 F (ub (sy_ai F 2) (sy_i F 0).toInt.toNat) (sy_i F 0).toInt.toNat v G) : (∃ r : Int32, v = some (.int r) ∧ r.toInt = a_read (ox F)) ∧ oz1 X2 (t_read (ox F, R)) G := by
  obtain ⟨r, t, F', rfl, rfl, e1, b1, j1, w1, e0, ep, hf, hs⟩ := hP
  refine ⟨⟨r, rfl, e1⟩, ?_⟩
  by_cases q : (rdA (ub (sy_ai F 2) (sy_i F 0).toInt.toNat) (sy_i F 0).toInt.toNat).1 = 0
  · obtain ⟨et, c1, g1, r1, u75, u74, d79, z78⟩ := hs q
    subst et
    have q' : (rdA (ox F).2.1 (ox F).1.toNat).1 = 0 := q
    have e2 : t_read (ox F, R) = ((0, (fun _ => 0), (rdA (ox F).2.1 (ox F).1.toNat).2, 0, fun _ => 0), rdT (ox F).2.1 (ox F).1.toNat, begS (rdT (ox F).2.1 (ox F).1.toNat), [], R.2.2.2) := by
      unfold t_read
      rw [if_pos q']
      show (s_read (ox F), _) = _
      unfold s_read
      rw [if_pos q']
    rw [e2]
    exact ⟨1, F', by decide, dh_x F' [] X2 (by decide), ⟨⟨j1, w1, ox0_mk e0 ub_z ep d79 (hl_z z78)⟩, c1, g1, ⟨0, by decide, Nat.zero_le _, u74, u75, trivial⟩, fun k hk hz => absurd (by rw [z78 k hk]; decide) hz, fun i hi => absurd (show (i : Int) < 0 from hi) (by omega), r1⟩⟩
  · obtain ⟨et, fr⟩ := hf q
    subst et
    have q' : ¬ (rdA (ox F).2.1 (ox F).1.toNat).1 = 0 := q
    have e2 : t_read (ox F, R) = ((0, (fun _ => 0), (rdA (ox F).2.1 (ox F).1.toNat).2, (ox F).2.2.2), R) := by
      unfold t_read
      rw [if_neg q']
      show (s_read (ox F), R) = _
      unfold s_read
      rw [if_neg q']
    rw [e2]
    have q1 : qC (0 :: 1 :: 39 :: 40 :: 41 :: 35 :: k3_WP) F F' := ⟨b1, fr⟩
    obtain ⟨-, h4, h5, h6, h7, h8, h9⟩ := h
    exact ⟨3, F', by decide, dh_x F' [] X2 (by decide), ⟨⟨j1, w1, ox0_mk e0 ub_z ep (nz_fi (fr 79 (by decide) (by decide))) (by rw [nz_fa (fr 78 (by decide) (by decide))])⟩, xC_q (by decide) h4 q1 (by decide), gC_eq h5 (fun j h1 h2 => fr j (by omega) (by intro z; simp [k3_WP] at z; omega)), trC_eq h6 (fr 74 (by decide) (by decide)) (fr 75 (by decide) (by decide)) (fr 76 (by decide) (by decide)), hlC_eq h7 (fr 77 (by decide) (by decide)) (fr 78 (by decide) (by decide)), by rw [nz_fa (fr 80 (by decide) (by decide)), nz_fa (fr 81 (by decide) (by decide))]; exact h8, fun f hf => (congrArg (fun l : List Int32 => l.getD f 0) (nz_fa (fr (18 + 9) (by decide) (by decide)))).trans (h9 f hf)⟩⟩
theorem km_read {R : tX × gS × List gS × (Nat → gS) × (Nat → Int32 × Int32)} {F : Nat → sy_d} {X1 : List jm_c} (h : mZ (om F, R) F) {v : Option Value} {G : jm_h} (hP : rq_Q X1 [] (rdA (ub (sy_ai F 23) (sy_i F 1).toInt.toNat) (sy_i F 1).toInt.toNat) (rdT (ub (sy_ai F 23) (sy_i F 1).toInt.toNat) (sy_i F 1).toInt.toNat) R.1 F v G) : (∃ r : Int32, v = some (.int r) ∧ r.toInt = a_read (om F)) ∧ oz2 X1 (t_read (om F, R)) G := by
  obtain ⟨x, F', rfl, rfl, b1, j1, e1, ex, e10, e29, hs, hf⟩ := hP
  refine ⟨⟨x, rfl, ex⟩, ?_⟩
  have w1 : sy_al F' 29 = wls := (nz_fl e29).trans h.1.2.1
  by_cases q : (rdA (ub (sy_ai F 23) (sy_i F 1).toInt.toNat) (sy_i F 1).toInt.toNat).1 = 0
  · obtain ⟨e20, e21, z67, x1, gw⟩ := hs q
    have hT := rdT_wf q
    have q' : (rdA (om F).2.1 (om F).1.toNat).1 = 0 := q
    have e2 : t_read (om F, R) = ((0, (fun _ => 0), (rdA (om F).2.1 (om F).1.toNat).2, 0, fun _ => 0), rdT (om F).2.1 (om F).1.toNat, begS (rdT (om F).2.1 (om F).1.toNat), [], R.2.2.2) := by
      unfold t_read
      rw [if_pos q']
      show (s_read (om F), _) = _
      unfold s_read
      rw [if_pos q']
    rw [e2]
    exact ⟨F', dh_m F' X1 [], ⟨⟨j1, w1, om_mk e1 ub_z e10 e21 (hl_z z67)⟩, ⟨b1, x1, hT⟩, gw hT, ⟨e20, Nat.zero_le _, trivial⟩, fun k hk hz => absurd (by rw [z67 k hk]; decide) hz, fun i hi => absurd (show (i : Int) < 0 from hi) (by omega)⟩⟩
  · obtain ⟨fk, x1⟩ := hf q
    have q' : ¬ (rdA (om F).2.1 (om F).1.toNat).1 = 0 := q
    have e2 : t_read (om F, R) = ((0, (fun _ => 0), (rdA (om F).2.1 (om F).1.toNat).2, (om F).2.2.2), R) := by
      unfold t_read
      rw [if_neg q']
      show (s_read (om F), R) = _
      unfold s_read
      rw [if_neg q']
    rw [e2]
    obtain ⟨-, h4, h5, h6, h7, h8⟩ := h
    exact ⟨F', dh_m F' X1 [], ⟨⟨j1, w1, om_mk e1 ub_z e10 (nz_fi (fk 21 (by decide))) (by rw [nz_fa (fk 67 (by decide))])⟩, ⟨b1, x1, h4.2.2⟩, gNw_e F h5 (nz_fa (fk 54 (by decide))), hiR_e h6 (fk 20 (by decide)) (fk 60 (by decide)), hrR_e F h7 (fk 67 (by decide)) (fk 68 (by decide)), by rw [nz_fa (fk 63 (by decide)), nz_fa (fk 64 (by decide))]; exact h8⟩⟩
