/-! ===== the thirteen, on both sides ===== -/
theorem b01 (b : Int32) : ((if b = 0 then 0 else 1 : Int32) = 0 ∨ (if b = 0 then 0 else 1 : Int32) = 1) ∧ 0 ≤ (if b = 0 then 0 else 1 : Int32).toInt ∧ (if b = 0 then 0 else 1 : Int32).toInt ≤ 1 := by
  split
  · exact ⟨Or.inl rfl, by decide, by decide⟩
  · exact ⟨Or.inr rfl, by decide, by decide⟩
section TH
variable {Ls : Nat} {xs : Nat → Int32}
theorem x_81 (a : Int32) (b : Int32) (c : Int32) (d : Int32) (e : Int32) : xzT Ls xs jm_M81 [.int (a), .int (b), .int (c), .int (d), .int (e)] (fun σ r => r.toInt = a_feed σ.1) (t_feed a b c d e) := by
  intro s F X2 σ hs hZ hO
  obtain ⟨x0, R⟩ := σ
  have e0 : ox F = x0 := hZ.1.2.2
  subst e0
  match s, hs, hZ with
  | 0, _, hZ => exact xz_pI (σ := (ox F, R)) (V := fun σ r => r.toInt = a_feed σ.1) (f := t_feed a b c d e) (by decide) (by decide) (j0fd_V [] X2 F hZ.2.1.1 a b c d e) (fun x F' hP => kx_feed hZ hP)
  | 1, _, hZ => exact xz_pI (σ := (ox F, R)) (V := fun σ r => r.toInt = a_feed σ.1) (f := t_feed a b c d e) (by decide) (by decide) (j1fd_V [] X2 F hZ.2.1.1 a b c d e) (fun x F' hP => kx_feed hZ hP)
  | 2, _, hZ => exact xz_pI (σ := (ox F, R)) (V := fun σ r => r.toInt = a_feed σ.1) (f := t_feed a b c d e) (by decide) (by decide) (j2fd_V [] X2 F hZ.2.1.1 a b c d e) (fun x F' hP => kx_feed hZ hP)
  | 3, _, hZ => exact xz_pI (σ := (ox F, R)) (V := fun σ r => r.toInt = a_feed σ.1) (f := t_feed a b c d e) (by decide) (by decide) (j3fd_V [] X2 F hZ.2.1.1 a b c d e) (fun x F' hP => kx_feed hZ hP)
  | n + 4, h, _ => exact absurd h (by omega)
theorem m_133 (a : Int32) (b : Int32) (c : Int32) (d : Int32) (e : Int32) : mzT Ls xs jm_M133 [.int (a), .int (b), .int (c), .int (d), .int (e)] (fun σ r => r.toInt = a_feed σ.1) (t_feed a b c d e) := ⟨2, by decide, fun F X1 σ hZ hO => by
  obtain ⟨x0, R⟩ := σ
  have e0 : om F = x0 := hZ.1.2.2
  subst e0
  exact mz_pI (σ := (om F, R)) (V := fun σ r => r.toInt = a_feed σ.1) (f := t_feed a b c d e) (rfd_V F X1 [] hZ.2.1.1 a b c d e) (fun x F' hP => km_feed hZ hP)⟩
theorem z_81 (a : Int32) (b : Int32) (c : Int32) (d : Int32) (e : Int32) : ∀ σ, okZ σ → okZ ((t_feed a b c d e) σ) := fun σ h => okZ_feed h a b c d e
theorem x_82 (a : Int32) : xzT Ls xs jm_M82 [.int (a)] (fun σ r => r.toInt = a_back a σ.1) (t_back a) := by
  intro s F X2 σ hs hZ hO
  obtain ⟨x0, R⟩ := σ
  have e0 : ox F = x0 := hZ.1.2.2
  subst e0
  match s, hs, hZ with
  | 0, _, hZ => exact xz_pI (σ := (ox F, R)) (V := fun σ r => r.toInt = a_back a σ.1) (f := t_back a) (by decide) (by decide) (j0bq_V [] X2 F hZ.2.1.1 a) (fun x F' hP => kx_back hZ hP)
  | 1, _, hZ => exact xz_pI (σ := (ox F, R)) (V := fun σ r => r.toInt = a_back a σ.1) (f := t_back a) (by decide) (by decide) (j1bq_V [] X2 F hZ.2.1.1 a) (fun x F' hP => kx_back hZ hP)
  | 2, _, hZ => exact xz_pI (σ := (ox F, R)) (V := fun σ r => r.toInt = a_back a σ.1) (f := t_back a) (by decide) (by decide) (j2bq_V [] X2 F hZ.2.1.1 a) (fun x F' hP => kx_back hZ hP)
  | 3, _, hZ => exact xz_pI (σ := (ox F, R)) (V := fun σ r => r.toInt = a_back a σ.1) (f := t_back a) (by decide) (by decide) (j3bq_V [] X2 F hZ.2.1.1 a) (fun x F' hP => kx_back hZ hP)
  | n + 4, h, _ => exact absurd h (by omega)
theorem m_135 (a : Int32) : mzT Ls xs jm_M135 [.int (a)] (fun σ r => r.toInt = a_back a σ.1) (t_back a) := ⟨1, by decide, fun F X1 σ hZ hO => by
  obtain ⟨x0, R⟩ := σ
  have e0 : om F = x0 := hZ.1.2.2
  subst e0
  exact mz_pI (σ := (om F, R)) (V := fun σ r => r.toInt = a_back a σ.1) (f := t_back a) (rbk_V F X1 [] hZ.2.1.1 a) (fun x F' hP => km_back hZ hP)⟩
theorem z_82 (a : Int32) : ∀ σ, okZ σ → okZ ((t_back a) σ) := fun σ h => okZ_back h a
theorem x_84  : xzT Ls xs jm_M84 [] (fun σ r => r.toInt = σ.1.2.2.1) (fun σ => σ) := by
  intro s F X2 σ hs hZ hO
  obtain ⟨x0, R⟩ := σ
  have e0 : ox F = x0 := hZ.1.2.2
  subst e0
  match s, hs, hZ with
  | 0, _, hZ => exact xz_pI (σ := (ox F, R)) (V := fun σ r => r.toInt = σ.1.2.2.1) (f := fun σ => σ) (by decide) (by decide) (j0pq_V [] X2 F hZ.2.1.1) (fun x F' hP => kx_place hZ hP)
  | 1, _, hZ => exact xz_pI (σ := (ox F, R)) (V := fun σ r => r.toInt = σ.1.2.2.1) (f := fun σ => σ) (by decide) (by decide) (j1pq_V [] X2 F hZ.2.1.1) (fun x F' hP => kx_place hZ hP)
  | 2, _, hZ => exact xz_pI (σ := (ox F, R)) (V := fun σ r => r.toInt = σ.1.2.2.1) (f := fun σ => σ) (by decide) (by decide) (j2pq_V [] X2 F hZ.2.1.1) (fun x F' hP => kx_place hZ hP)
  | 3, _, hZ => exact xz_pI (σ := (ox F, R)) (V := fun σ r => r.toInt = σ.1.2.2.1) (f := fun σ => σ) (by decide) (by decide) (j3pq_V [] X2 F hZ.2.1.1) (fun x F' hP => kx_place hZ hP)
  | n + 4, h, _ => exact absurd h (by omega)
theorem m_151  : mzT Ls xs jm_M151 [] (fun σ r => r.toInt = σ.1.2.2.1) (fun σ => σ) := ⟨1, by decide, fun F X1 σ hZ hO => by
  obtain ⟨x0, R⟩ := σ
  have e0 : om F = x0 := hZ.1.2.2
  subst e0
  exact mz_pI (σ := (om F, R)) (V := fun σ r => r.toInt = σ.1.2.2.1) (f := fun σ => σ) (rpl_V F X1 [] hZ.2.1.1) (fun x F' hP => km_place hZ hP)⟩
theorem z_84  : ∀ σ, okZ σ → okZ ((fun σ => σ) σ) := fun σ h => h
theorem x_109  : xzT Ls xs jm_M109 [] (fun σ r => r.toInt = σ.1.2.2.2.1) (t_forget) := by
  intro s F X2 σ hs hZ hO
  obtain ⟨x0, R⟩ := σ
  have e0 : ox F = x0 := hZ.1.2.2
  subst e0
  match s, hs, hZ with
  | 0, _, hZ => exact xz_pI (σ := (ox F, R)) (V := fun σ r => r.toInt = σ.1.2.2.2.1) (f := t_forget) (by decide) (by decide) (j0fq_V [] X2 F hZ.2.1.1) (fun x F' hP => kx_forget hZ hP)
  | 1, _, hZ => exact xz_pI (σ := (ox F, R)) (V := fun σ r => r.toInt = σ.1.2.2.2.1) (f := t_forget) (by decide) (by decide) (j1fq_V [] X2 F hZ.2.1.1) (fun x F' hP => kx_forget hZ hP)
  | 2, _, hZ => exact xz_pI (σ := (ox F, R)) (V := fun σ r => r.toInt = σ.1.2.2.2.1) (f := t_forget) (by decide) (by decide) (j2fq_V [] X2 F hZ.2.1.1) (fun x F' hP => kx_forget hZ hP)
  | 3, _, hZ => exact xz_pI (σ := (ox F, R)) (V := fun σ r => r.toInt = σ.1.2.2.2.1) (f := t_forget) (by decide) (by decide) (j3fq_V [] X2 F hZ.2.1.1) (fun x F' hP => kx_forget hZ hP)
  | n + 4, h, _ => exact absurd h (by omega)
theorem m_229  : mzT Ls xs jm_M229 [] (fun σ r => r.toInt = σ.1.2.2.2.1) (t_forget) := ⟨1, by decide, fun F X1 σ hZ hO => by
  obtain ⟨x0, R⟩ := σ
  have e0 : om F = x0 := hZ.1.2.2
  subst e0
  exact mz_pI (σ := (om F, R)) (V := fun σ r => r.toInt = σ.1.2.2.2.1) (f := t_forget) (rfo_V F X1 [] hZ.2.1.1) (fun x F' hP => km_forget hZ hP)⟩
theorem z_109  : ∀ σ, okZ σ → okZ ((t_forget) σ) := fun σ h => okZ_forget h
theorem x_108 (a : Int32) (b : Int32) : xzT Ls xs jm_M108 [.int (a), .int (b)] (fun σ r => r.toInt = a_tell a b σ.1) (t_tell a b) := by
  intro s F X2 σ hs hZ hO
  obtain ⟨x0, R⟩ := σ
  have e0 : ox F = x0 := hZ.1.2.2
  subst e0
  match s, hs, hZ with
  | 0, _, hZ => exact xz_pI (σ := (ox F, R)) (V := fun σ r => r.toInt = a_tell a b σ.1) (f := t_tell a b) (by decide) (by decide) (j0tq_V [] X2 F hZ.2.1.1 a b) (fun x F' hP => kx_tell hZ hP)
  | 1, _, hZ => exact xz_pI (σ := (ox F, R)) (V := fun σ r => r.toInt = a_tell a b σ.1) (f := t_tell a b) (by decide) (by decide) (j1tq_V [] X2 F hZ.2.1.1 a b) (fun x F' hP => kx_tell hZ hP)
  | 2, _, hZ => exact xz_pI (σ := (ox F, R)) (V := fun σ r => r.toInt = a_tell a b σ.1) (f := t_tell a b) (by decide) (by decide) (j2tq_V [] X2 F hZ.2.1.1 a b) (fun x F' hP => kx_tell hZ hP)
  | 3, _, hZ => exact xz_pI (σ := (ox F, R)) (V := fun σ r => r.toInt = a_tell a b σ.1) (f := t_tell a b) (by decide) (by decide) (j3tq_V [] X2 F hZ.2.1.1 a b) (fun x F' hP => kx_tell hZ hP)
  | n + 4, h, _ => exact absurd h (by omega)
theorem m_228 (a : Int32) (b : Int32) : mzT Ls xs jm_M228 [.int (a), .int (b)] (fun σ r => r.toInt = a_tell a b σ.1) (t_tell a b) := ⟨2, by decide, fun F X1 σ hZ hO => by
  obtain ⟨x0, R⟩ := σ
  have e0 : om F = x0 := hZ.1.2.2
  subst e0
  exact mz_pI (σ := (om F, R)) (V := fun σ r => r.toInt = a_tell a b σ.1) (f := t_tell a b) (rtl_V F X1 [] hZ.2.1.1 a b) (fun x F' hP => km_tell hZ hP)⟩
theorem z_108 (a : Int32) (b : Int32) : ∀ σ, okZ σ → okZ ((t_tell a b) σ) := fun σ h => okZ_tell h a b
theorem x_113 (a : Int32) : xzT Ls xs jm_M113 [.int (a)] (fun σ r => r.toInt = a_hold a σ.1) (t_hold a) := by
  intro s F X2 σ hs hZ hO
  obtain ⟨x0, R⟩ := σ
  have e0 : ox F = x0 := hZ.1.2.2
  subst e0
  match s, hs, hZ with
  | 0, _, hZ => exact xz_pI (σ := (ox F, R)) (V := fun σ r => r.toInt = a_hold a σ.1) (f := t_hold a) (by decide) (by decide) (j0hd_V F [] X2 hZ.2.1.1 hZ.2.1.2.2.1.1.1 hZ.2.1.2.2.1.1.2.1 hZ.2.2.1 hZ.2.2.2.2.1 a) (fun x F' hP => kx_hold hZ hP)
  | 1, _, hZ => exact xz_pI (σ := (ox F, R)) (V := fun σ r => r.toInt = a_hold a σ.1) (f := t_hold a) (by decide) (by decide) (j1hd_V F [] X2 hZ.2.1.1 hZ.2.1.2.2.1.1.1 hZ.2.1.2.2.1.1.2.1 hZ.2.2.1 hZ.2.2.2.2.1 a) (fun x F' hP => kx_hold hZ hP)
  | 2, _, hZ => exact xz_pI (σ := (ox F, R)) (V := fun σ r => r.toInt = a_hold a σ.1) (f := t_hold a) (by decide) (by decide) (j2hd_V F [] X2 hZ.2.1.1 hZ.2.1.2.2.1.1.1 hZ.2.1.2.2.1.1.2.1 hZ.2.2.1 hZ.2.2.2.2.1 a) (fun x F' hP => kx_hold hZ hP)
  | 3, _, hZ => exact xz_pI (σ := (ox F, R)) (V := fun σ r => r.toInt = a_hold a σ.1) (f := t_hold a) (by decide) (by decide) (j3hd_V F [] X2 hZ.2.1.1 hZ.2.1.2.2.1.1.1 hZ.2.1.2.2.1.1.2.1 hZ.2.2.1 hZ.2.2.2.2.1 a) (fun x F' hP => kx_hold hZ hP)
  | n + 4, h, _ => exact absurd h (by omega)
theorem m_236 (a : Int32) : mzT Ls xs jm_M236 [.int (a)] (fun σ r => r.toInt = a_hold a σ.1) (t_hold a) := ⟨2, by decide, fun F X1 σ hZ hO => by
  obtain ⟨x0, R⟩ := σ
  have e0 : om F = x0 := hZ.1.2.2
  subst e0
  exact mz_pI (σ := (om F, R)) (V := fun σ r => r.toInt = a_hold a σ.1) (f := t_hold a) (rhd_V F X1 [] hZ.2.1 hZ.2.2.1 hZ.2.2.2.2.1 a) (fun x F' hP => km_hold hZ hP)⟩
theorem z_113 (a : Int32) : ∀ σ, okZ σ → okZ ((t_hold a) σ) := fun σ h => okZ_hold h a
theorem x_114 (a : Int32) : xzT Ls xs jm_M114 [.int (a)] (fun σ r => r.toInt = a_rest a σ.1) (t_rest a) := by
  intro s F X2 σ hs hZ hO
  obtain ⟨x0, R⟩ := σ
  have e0 : ox F = x0 := hZ.1.2.2
  subst e0
  match s, hs, hZ with
  | 0, _, hZ => exact xz_pI (σ := (ox F, R)) (V := fun σ r => r.toInt = a_rest a σ.1) (f := t_rest a) (by decide) (by decide) (j0rs_V F [] X2 hZ.2.1.1 hZ.2.1.2.2.1.1.1 hZ.2.1.2.2.1.1.2.1 hZ.2.2.2.2.1 a) (fun x F' hP => kx_rest hZ hP)
  | 1, _, hZ => exact xz_pI (σ := (ox F, R)) (V := fun σ r => r.toInt = a_rest a σ.1) (f := t_rest a) (by decide) (by decide) (j1rs_V F [] X2 hZ.2.1.1 hZ.2.1.2.2.1.1.1 hZ.2.1.2.2.1.1.2.1 hZ.2.2.2.2.1 a) (fun x F' hP => kx_rest hZ hP)
  | 2, _, hZ => exact xz_pI (σ := (ox F, R)) (V := fun σ r => r.toInt = a_rest a σ.1) (f := t_rest a) (by decide) (by decide) (j2rs_V F [] X2 hZ.2.1.1 hZ.2.1.2.2.1.1.1 hZ.2.1.2.2.1.1.2.1 hZ.2.2.2.2.1 a) (fun x F' hP => kx_rest hZ hP)
  | 3, _, hZ => exact xz_pI (σ := (ox F, R)) (V := fun σ r => r.toInt = a_rest a σ.1) (f := t_rest a) (by decide) (by decide) (j3rs_V F [] X2 hZ.2.1.1 hZ.2.1.2.2.1.1.1 hZ.2.1.2.2.1.1.2.1 hZ.2.2.2.2.1 a) (fun x F' hP => kx_rest hZ hP)
  | n + 4, h, _ => exact absurd h (by omega)
theorem m_237 (a : Int32) : mzT Ls xs jm_M237 [.int (a)] (fun σ r => r.toInt = a_rest a σ.1) (t_rest a) := ⟨2, by decide, fun F X1 σ hZ hO => by
  obtain ⟨x0, R⟩ := σ
  have e0 : om F = x0 := hZ.1.2.2
  subst e0
  exact mz_pI (σ := (om F, R)) (V := fun σ r => r.toInt = a_rest a σ.1) (f := t_rest a) (rrs_V F X1 [] hZ.2.1 hZ.2.2.2.2.1 a) (fun x F' hP => km_rest hZ hP)⟩
theorem z_114 (a : Int32) : ∀ σ, okZ σ → okZ ((t_rest a) σ) := fun σ h => okZ_rest h a
theorem x_88 (a : Int32) (b : Int32) : xzT Ls xs jm_M88 [.int (a), .int (b)] (fun σ r => r = a_go a b σ) (t_go a b) := by
  intro s F X2 σ hs hZ hO
  obtain ⟨x0, R⟩ := σ
  have e0 : ox F = x0 := hZ.1.2.2
  subst e0
  match s, hs, hZ with
  | 0, _, hZ => exact xz_pI (σ := (ox F, R)) (V := fun σ r => r = a_go a b σ) (f := t_go a b) (by decide) (by decide) (j0go_V F [] X2 hZ.2.1 hZ.2.2.1 hZ.2.2.2.1 a b) (fun x F' hP => kx_go hZ hP)
  | 1, _, hZ => exact xz_pI (σ := (ox F, R)) (V := fun σ r => r = a_go a b σ) (f := t_go a b) (by decide) (by decide) (j1go_V F [] X2 hZ.2.1 hZ.2.2.1 hZ.2.2.2.1 a b) (fun x F' hP => kx_go hZ hP)
  | 2, _, hZ => exact xz_pI (σ := (ox F, R)) (V := fun σ r => r = a_go a b σ) (f := t_go a b) (by decide) (by decide) (j2go_V F [] X2 hZ.2.1 hZ.2.2.1 hZ.2.2.2.1 a b) (fun x F' hP => kx_go hZ hP)
  | 3, _, hZ => exact xz_pI (σ := (ox F, R)) (V := fun σ r => r = a_go a b σ) (f := t_go a b) (by decide) (by decide) (j3go_V F [] X2 hZ.2.1 hZ.2.2.1 hZ.2.2.2.1 a b) (fun x F' hP => kx_go hZ hP)
  | n + 4, h, _ => exact absurd h (by omega)
theorem m_201 (a : Int32) (b : Int32) : mzT Ls xs jm_M201 [.int (a), .int (b)] (fun σ r => r = a_go a b σ) (t_go a b) := ⟨3, by decide, fun F X1 σ hZ hO => by
  obtain ⟨x0, R⟩ := σ
  have e0 : om F = x0 := hZ.1.2.2
  subst e0
  exact mz_pI (σ := (om F, R)) (V := fun σ r => r = a_go a b σ) (f := t_go a b) (rgo_V F X1 [] hZ.2.1 hZ.2.2.1 hZ.2.2.2.1 a b) (fun x F' hP => km_go hZ hP)⟩
theorem z_88 (a : Int32) (b : Int32) : ∀ σ, okZ σ → okZ ((t_go a b) σ) := fun σ h => okZ_go h a b
theorem x_89 (a : Int32) (b : Int32) : xzT Ls xs jm_M89 [.int (a), .int (if b = 0 then 0 else 1)] (fun σ r => r = a_prop a (if b = 0 then 0 else 1) σ) (t_prop a (if b = 0 then 0 else 1)) := by
  intro s F X2 σ hs hZ hO
  obtain ⟨x0, R⟩ := σ
  have e0 : ox F = x0 := hZ.1.2.2
  subst e0
  match s, hs, hZ with
  | 0, _, hZ => exact xz_pI (σ := (ox F, R)) (V := fun σ r => r = a_prop a (if b = 0 then 0 else 1) σ) (f := t_prop a (if b = 0 then 0 else 1)) (by decide) (by decide) (j0pr_V F [] X2 hZ.2.1 hZ.2.2.1 hZ.2.2.2.1 a _ (b01 b).2) (fun x F' hP => kx_prop hZ hP)
  | 1, _, hZ => exact xz_pI (σ := (ox F, R)) (V := fun σ r => r = a_prop a (if b = 0 then 0 else 1) σ) (f := t_prop a (if b = 0 then 0 else 1)) (by decide) (by decide) (j1pr_V F [] X2 hZ.2.1 hZ.2.2.1 hZ.2.2.2.1 a _ (b01 b).2) (fun x F' hP => kx_prop hZ hP)
  | 2, _, hZ => exact xz_pI (σ := (ox F, R)) (V := fun σ r => r = a_prop a (if b = 0 then 0 else 1) σ) (f := t_prop a (if b = 0 then 0 else 1)) (by decide) (by decide) (j2pr_V F [] X2 hZ.2.1 hZ.2.2.1 hZ.2.2.2.1 a _ (b01 b).2) (fun x F' hP => kx_prop hZ hP)
  | 3, _, hZ => exact xz_pI (σ := (ox F, R)) (V := fun σ r => r = a_prop a (if b = 0 then 0 else 1) σ) (f := t_prop a (if b = 0 then 0 else 1)) (by decide) (by decide) (j3pr_V F [] X2 hZ.2.1 hZ.2.2.1 hZ.2.2.2.1 a _ (b01 b).2) (fun x F' hP => kx_prop hZ hP)
  | n + 4, h, _ => exact absurd h (by omega)
theorem m_202 (a : Int32) (b : Int32) : mzT Ls xs jm_M202 [.int (a), .int (if b = 0 then 0 else 1)] (fun σ r => r = a_prop a (if b = 0 then 0 else 1) σ) (t_prop a (if b = 0 then 0 else 1)) := ⟨3, by decide, fun F X1 σ hZ hO => by
  obtain ⟨x0, R⟩ := σ
  have e0 : om F = x0 := hZ.1.2.2
  subst e0
  exact mz_pI (σ := (om F, R)) (V := fun σ r => r = a_prop a (if b = 0 then 0 else 1) σ) (f := t_prop a (if b = 0 then 0 else 1)) (rpr_V F X1 [] hZ.2.1 hZ.2.2.1 hO.1.2 hZ.2.2.2.1 a _ (b01 b).2) (fun x F' hP => km_prop hZ hP)⟩
theorem z_89 (a : Int32) (b : Int32) : ∀ σ, okZ σ → okZ ((t_prop a (if b = 0 then 0 else 1)) σ) := fun σ h => okZ_prop h a (b01 b).1
theorem x_90 (a : Int32) : xzT Ls xs jm_M90 [.int (a)] (fun σ r => r = a_shake a σ) (t_shake a) := by
  intro s F X2 σ hs hZ hO
  obtain ⟨x0, R⟩ := σ
  have e0 : ox F = x0 := hZ.1.2.2
  subst e0
  match s, hs, hZ with
  | 0, _, hZ => exact xz_pI (σ := (ox F, R)) (V := fun σ r => r = a_shake a σ) (f := t_shake a) (by decide) (by decide) (j0sq_V F [] X2 hZ.2.1 hZ.2.2.1 hZ.2.2.2.1 a) (fun x F' hP => kx_shake hZ hP)
  | 1, _, hZ => exact xz_pI (σ := (ox F, R)) (V := fun σ r => r = a_shake a σ) (f := t_shake a) (by decide) (by decide) (j1sq_V F [] X2 hZ.2.1 hZ.2.2.1 hZ.2.2.2.1 a) (fun x F' hP => kx_shake hZ hP)
  | 2, _, hZ => exact xz_pI (σ := (ox F, R)) (V := fun σ r => r = a_shake a σ) (f := t_shake a) (by decide) (by decide) (j2sq_V F [] X2 hZ.2.1 hZ.2.2.1 hZ.2.2.2.1 a) (fun x F' hP => kx_shake hZ hP)
  | 3, _, hZ => exact xz_pI (σ := (ox F, R)) (V := fun σ r => r = a_shake a σ) (f := t_shake a) (by decide) (by decide) (j3sq_V F [] X2 hZ.2.1 hZ.2.2.1 hZ.2.2.2.1 a) (fun x F' hP => kx_shake hZ hP)
  | n + 4, h, _ => exact absurd h (by omega)
theorem m_203 (a : Int32) : mzT Ls xs jm_M203 [.int (a)] (fun σ r => r = a_shake a σ) (t_shake a) := ⟨7, by decide, fun F X1 σ hZ hO => by
  obtain ⟨x0, R⟩ := σ
  have e0 : om F = x0 := hZ.1.2.2
  subst e0
  exact mz_pI (σ := (om F, R)) (V := fun σ r => r = a_shake a σ) (f := t_shake a) (rsk_V F X1 [] hZ.2.1 hZ.2.2.1 hZ.2.2.2.1 a) (fun x F' hP => km_shake hZ hP)⟩
theorem z_90 (a : Int32) : ∀ σ, okZ σ → okZ ((t_shake a) σ) := fun σ h => okZ_shake h a
theorem x_91 (a : Int32) : xzT Ls xs jm_M91 [.int (a)] (fun σ r => r = a_hours a σ) (t_hours a) := by
  intro s F X2 σ hs hZ hO
  obtain ⟨x0, R⟩ := σ
  have e0 : ox F = x0 := hZ.1.2.2
  subst e0
  match s, hs, hZ with
  | 0, _, hZ => exact xz_pI (σ := (ox F, R)) (V := fun σ r => r = a_hours a σ) (f := t_hours a) (by decide) (by decide) (j0hq_V F [] X2 hZ.2.1 hZ.2.2.1 hO.1.1 hZ.2.2.2.1 a) (fun x F' hP => kx_hours hZ hP)
  | 1, _, hZ => exact xz_pI (σ := (ox F, R)) (V := fun σ r => r = a_hours a σ) (f := t_hours a) (by decide) (by decide) (j1hq_V F [] X2 hZ.2.1 hZ.2.2.1 hO.1.1 hZ.2.2.2.1 a) (fun x F' hP => kx_hours hZ hP)
  | 2, _, hZ => exact xz_pI (σ := (ox F, R)) (V := fun σ r => r = a_hours a σ) (f := t_hours a) (by decide) (by decide) (j2hq_V F [] X2 hZ.2.1 hZ.2.2.1 hO.1.1 hZ.2.2.2.1 a) (fun x F' hP => kx_hours hZ hP)
  | 3, _, hZ => exact xz_pI (σ := (ox F, R)) (V := fun σ r => r = a_hours a σ) (f := t_hours a) (by decide) (by decide) (j3hq_V F [] X2 hZ.2.1 hZ.2.2.1 hO.1.1 hZ.2.2.2.1 a) (fun x F' hP => kx_hours hZ hP)
  | n + 4, h, _ => exact absurd h (by omega)
theorem m_204 (a : Int32) : mzT Ls xs jm_M204 [.int (a)] (fun σ r => r = a_hours a σ) (t_hours a) := ⟨9, by decide, fun F X1 σ hZ hO => by
  obtain ⟨x0, R⟩ := σ
  have e0 : om F = x0 := hZ.1.2.2
  subst e0
  exact mz_pI (σ := (om F, R)) (V := fun σ r => r = a_hours a σ) (f := t_hours a) (rhr_V F X1 [] hZ.2.1 hZ.2.2.1 hO.1.1 hZ.2.2.2.1 a) (fun x F' hP => km_hours hZ hP)⟩
theorem z_91 (a : Int32) : ∀ σ, okZ σ → okZ ((t_hours a) σ) := fun σ h => okZ_hours h a
theorem x_92 : xzT Ls xs jm_M92 [] (fun σ r => r = a_undo σ) t_undo := by
  intro s F X2 σ hs hZ hO
  obtain ⟨x0, T, g, U, HW⟩ := σ
  have e0 : ox F = x0 := hZ.1.2.2
  subst e0
  match U, s, hs, hZ with
  | [], 0, _, hZ => exact xz_pI (σ := (ox F, T, g, [], HW)) (V := fun σ r => r = a_undo σ) (f := t_undo) (by decide) (by decide) (j0un_V0 F [] X2 hZ.2.1.1 hZ.2.2.2.1) (fun x F' hP => kx_undo0 hZ hP)
  | u :: U, 0, _, hZ => exact xz_pI (σ := (ox F, T, g, u :: U, HW)) (V := fun σ r => r = a_undo σ) (f := t_undo) (by decide) (by decide) (j0un_V1 F [] X2 hZ.2.1.1 hZ.2.1.2.2.1.1.1 hZ.2.1.2.2.1.1.2.1 hZ.2.2.2.1) (fun x F' hP => kx_undo1 hZ hP)
  | [], 1, _, hZ => exact xz_pI (σ := (ox F, T, g, [], HW)) (V := fun σ r => r = a_undo σ) (f := t_undo) (by decide) (by decide) (j1un_V0 F [] X2 hZ.2.1.1 hZ.2.2.2.1) (fun x F' hP => kx_undo0 hZ hP)
  | u :: U, 1, _, hZ => exact xz_pI (σ := (ox F, T, g, u :: U, HW)) (V := fun σ r => r = a_undo σ) (f := t_undo) (by decide) (by decide) (j1un_V1 F [] X2 hZ.2.1.1 hZ.2.1.2.2.1.1.1 hZ.2.1.2.2.1.1.2.1 hZ.2.2.2.1) (fun x F' hP => kx_undo1 hZ hP)
  | [], 2, _, hZ => exact xz_pI (σ := (ox F, T, g, [], HW)) (V := fun σ r => r = a_undo σ) (f := t_undo) (by decide) (by decide) (j2un_V0 F [] X2 hZ.2.1.1 hZ.2.2.2.1) (fun x F' hP => kx_undo0 hZ hP)
  | u :: U, 2, _, hZ => exact xz_pI (σ := (ox F, T, g, u :: U, HW)) (V := fun σ r => r = a_undo σ) (f := t_undo) (by decide) (by decide) (j2un_V1 F [] X2 hZ.2.1.1 hZ.2.1.2.2.1.1.1 hZ.2.1.2.2.1.1.2.1 hZ.2.2.2.1) (fun x F' hP => kx_undo1 hZ hP)
  | [], 3, _, hZ => exact xz_pI (σ := (ox F, T, g, [], HW)) (V := fun σ r => r = a_undo σ) (f := t_undo) (by decide) (by decide) (j3un_V0 F [] X2 hZ.2.1.1 hZ.2.2.2.1) (fun x F' hP => kx_undo0 hZ hP)
  | u :: U, 3, _, hZ => exact xz_pI (σ := (ox F, T, g, u :: U, HW)) (V := fun σ r => r = a_undo σ) (f := t_undo) (by decide) (by decide) (j3un_V1 F [] X2 hZ.2.1.1 hZ.2.1.2.2.1.1.1 hZ.2.1.2.2.1.1.2.1 hZ.2.2.2.1) (fun x F' hP => kx_undo1 hZ hP)
  | _, n + 4, h, _ => exact absurd h (by omega)
theorem m_205 : mzT Ls xs jm_M205 [] (fun σ r => r = a_undo σ) t_undo := ⟨1, by decide, fun F X1 σ hZ hO => by
  obtain ⟨x0, T, g, U, HW⟩ := σ
  have e0 : om F = x0 := hZ.1.2.2
  subst e0
  match U, hZ with
  | [], hZ => exact mz_pI (σ := (om F, T, g, [], HW)) (V := fun σ r => r = a_undo σ) (f := t_undo) (run_V0 F X1 [] hZ.2.1.1 hZ.2.2.2.1) (fun x F' hP => km_undo0 hZ hP)
  | u :: U, hZ => exact mz_pI (σ := (om F, T, g, u :: U, HW)) (V := fun σ r => r = a_undo σ) (f := t_undo) (run_V1 F X1 [] hZ.2.1 hZ.2.2.2.1) (fun x F' hP => km_undo1 hZ hP)⟩
theorem z_92 : ∀ σ, okZ σ → okZ (t_undo σ) := fun σ h => okZ_undo h
theorem x_83 : xzT Ls xs jm_M83 [] (fun σ r => r.toInt = a_read σ.1) t_read := by
  intro s F X2 σ hs hZ hO
  obtain ⟨x0, R⟩ := σ
  have e0 : ox F = x0 := hZ.1.2.2
  subst e0
  match s, hs, hZ with
  | 0, _, hZ =>
    refine ⟨29, by decide, ?_⟩
    rw [← dh_x F [] X2 (by decide : 0 < 4)]
    exact jm_T_mono (j0rd_V [] X2 F hZ.2.1.1 hZ.1.1 hZ.1.2.1) (fun v G hP => kx_read0 hZ hP)
  | 1, _, hZ =>
    refine ⟨29, by decide, ?_⟩
    rw [← dh_x F [] X2 (by decide : 1 < 4)]
    exact jm_T_mono (j1rd_V [] X2 F hZ.2.1.1 hZ.1.1 hZ.1.2.1) (fun v G hP => kx_read1 hZ hP)
  | 2, _, hZ =>
    refine ⟨29, by decide, ?_⟩
    rw [← dh_x F [] X2 (by decide : 2 < 4)]
    exact jm_T_mono (j2rd_V [] X2 F hZ.2.1.1 hZ.1.1 hZ.1.2.1) (fun v G hP => kx_read2 hZ hP)
  | 3, _, hZ =>
    refine ⟨29, by decide, ?_⟩
    rw [← dh_x F [] X2 (by decide : 3 < 4)]
    exact jm_T_mono (j3rd_V [] X2 F hZ.2.1.1 hZ.1.1 hZ.1.2.1) (fun v G hP => kx_read3 hZ hP)
  | n + 4, h, _ => exact absurd h (by omega)
theorem m_150 : mzT Ls xs jm_M150 [] (fun σ r => r.toInt = a_read σ.1) t_read := ⟨8, by decide, fun F X1 σ hZ hO => by
  obtain ⟨x0, R⟩ := σ
  have e0 : om F = x0 := hZ.1.2.2
  subst e0
  rw [← dh_m F X1 []]
  exact jm_T_mono (rrd_V X1 [] R.1 F hZ.2.1.1 hZ.1.1 hZ.1.2.1 hZ.2.1.2.1) (fun v G hP => km_read hZ hP)⟩
theorem z_83 : ∀ σ, okZ σ → okZ (t_read σ) := fun σ h => okZ_read h
end TH
