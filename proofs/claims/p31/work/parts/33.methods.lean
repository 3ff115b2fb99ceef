/-! ===== each method of the two that is not compared, from any state ===== -/
section MM
variable {Ls : Nat} {xs : Nat → Int32}
theorem x_85 (a : Int32) (b : Int32) : xzT Ls xs jm_M85 [.int (a), .int (b)] (fun _ _ => True) (fun σ => σ) := by
  intro s F X2 σ hs hZ hO
  match s, hs, hZ with
  | 0, _, hZ => exact ⟨_, Nat.le_of_ble_eq_true rfl, octz_x [a, b] ok_0_85 rfl (by decide) rfl rfl (fun F => rfl) (fun F hB => iv_app rfl (iv_nx rfl hB) ⟨iv_az _, ⟨iv_az _, trivial⟩⟩) F X2 hZ⟩
  | 1, _, hZ => exact ⟨_, Nat.le_of_ble_eq_true rfl, octz_x [a, b] ok_1_85 rfl (by decide) rfl rfl (fun F => rfl) (fun F hB => iv_app rfl (iv_nx rfl hB) ⟨iv_az _, ⟨iv_az _, trivial⟩⟩) F X2 hZ⟩
  | 2, _, hZ => exact ⟨_, Nat.le_of_ble_eq_true rfl, octz_x [a, b] ok_2_85 rfl (by decide) rfl rfl (fun F => rfl) (fun F hB => iv_app rfl (iv_nx rfl hB) ⟨iv_az _, ⟨iv_az _, trivial⟩⟩) F X2 hZ⟩
  | 3, _, hZ => exact ⟨_, Nat.le_of_ble_eq_true rfl, octz_x [a, b] ok_3_85 rfl (by decide) rfl rfl (fun F => rfl) (fun F hB => iv_app rfl (iv_nx rfl hB) ⟨iv_az _, ⟨iv_az _, trivial⟩⟩) F X2 hZ⟩
  | n + 4, h, _ => exact absurd h (by omega)
theorem m_194 (a : Int32) (b : Int32) : mzT Ls xs jm_M194 [.int (a), .int (b)] (fun _ _ => True) (fun σ => σ) := ⟨_, Nat.le_of_ble_eq_true rfl, fun F X1 σ hZ hO => octz_m [a, b] ok_4_194 rfl rfl rfl (fun F => rfl) (fun F hB => iv_app rfl (iv_nx rfl hB) ⟨iv_az _, ⟨iv_az _, trivial⟩⟩) F X1 hZ⟩
theorem x_86 (a : Int32) (b : Int32) : xzT Ls xs jm_M86 [.int (a), .int (b)] (fun _ _ => True) (fun σ => σ) := by
  intro s F X2 σ hs hZ hO
  match s, hs, hZ with
  | 0, _, hZ => exact ⟨_, Nat.le_of_ble_eq_true rfl, octz_x [a, b] ok_0_86 rfl (by decide) rfl rfl (fun F => rfl) (fun F hB => iv_app rfl (iv_nx rfl hB) ⟨iv_az _, ⟨iv_az _, trivial⟩⟩) F X2 hZ⟩
  | 1, _, hZ => exact ⟨_, Nat.le_of_ble_eq_true rfl, octz_x [a, b] ok_1_86 rfl (by decide) rfl rfl (fun F => rfl) (fun F hB => iv_app rfl (iv_nx rfl hB) ⟨iv_az _, ⟨iv_az _, trivial⟩⟩) F X2 hZ⟩
  | 2, _, hZ => exact ⟨_, Nat.le_of_ble_eq_true rfl, octz_x [a, b] ok_2_86 rfl (by decide) rfl rfl (fun F => rfl) (fun F hB => iv_app rfl (iv_nx rfl hB) ⟨iv_az _, ⟨iv_az _, trivial⟩⟩) F X2 hZ⟩
  | 3, _, hZ => exact ⟨_, Nat.le_of_ble_eq_true rfl, octz_x [a, b] ok_3_86 rfl (by decide) rfl rfl (fun F => rfl) (fun F hB => iv_app rfl (iv_nx rfl hB) ⟨iv_az _, ⟨iv_az _, trivial⟩⟩) F X2 hZ⟩
  | n + 4, h, _ => exact absurd h (by omega)
theorem m_195 (a : Int32) (b : Int32) : mzT Ls xs jm_M195 [.int (a), .int (b)] (fun _ _ => True) (fun σ => σ) := ⟨_, Nat.le_of_ble_eq_true rfl, fun F X1 σ hZ hO => octz_m [a, b] ok_4_195 rfl rfl rfl (fun F => rfl) (fun F hB => iv_app rfl (iv_nx rfl hB) ⟨iv_az _, ⟨iv_az _, trivial⟩⟩) F X1 hZ⟩
theorem x_87 (a : Int32) (b : Int32) : xzT Ls xs jm_M87 [.int (a), .int (b)] (fun _ _ => True) (fun σ => σ) := by
  intro s F X2 σ hs hZ hO
  match s, hs, hZ with
  | 0, _, hZ => exact ⟨_, Nat.le_of_ble_eq_true rfl, octz_x [a, b] ok_0_87 rfl (by decide) rfl rfl (fun F => rfl) (fun F hB => iv_app rfl (iv_nx rfl hB) ⟨iv_az _, ⟨iv_az _, trivial⟩⟩) F X2 hZ⟩
  | 1, _, hZ => exact ⟨_, Nat.le_of_ble_eq_true rfl, octz_x [a, b] ok_1_87 rfl (by decide) rfl rfl (fun F => rfl) (fun F hB => iv_app rfl (iv_nx rfl hB) ⟨iv_az _, ⟨iv_az _, trivial⟩⟩) F X2 hZ⟩
  | 2, _, hZ => exact ⟨_, Nat.le_of_ble_eq_true rfl, octz_x [a, b] ok_2_87 rfl (by decide) rfl rfl (fun F => rfl) (fun F hB => iv_app rfl (iv_nx rfl hB) ⟨iv_az _, ⟨iv_az _, trivial⟩⟩) F X2 hZ⟩
  | 3, _, hZ => exact ⟨_, Nat.le_of_ble_eq_true rfl, octz_x [a, b] ok_3_87 rfl (by decide) rfl rfl (fun F => rfl) (fun F hB => iv_app rfl (iv_nx rfl hB) ⟨iv_az _, ⟨iv_az _, trivial⟩⟩) F X2 hZ⟩
  | n + 4, h, _ => exact absurd h (by omega)
theorem m_199 (a : Int32) (b : Int32) : mzT Ls xs jm_M199 [.int (a), .int (b)] (fun _ _ => True) (fun σ => σ) := ⟨_, Nat.le_of_ble_eq_true rfl, fun F X1 σ hZ hO => octz_m [a, b] ok_4_199 rfl rfl rfl (fun F => rfl) (fun F hB => iv_app rfl (iv_nx rfl hB) ⟨iv_az _, ⟨iv_az _, trivial⟩⟩) F X1 hZ⟩
theorem x_93 (a : Int32) (b : Int32) (c : Int32) : xzT Ls xs jm_M93 [.int (a), .int (b), .int (if c = 0 then 0 else 1)] (fun _ _ => True) (fun σ => σ) := by
  intro s F X2 σ hs hZ hO
  match s, hs, hZ with
  | 0, _, hZ => exact ⟨_, Nat.le_of_ble_eq_true rfl, octz_x [a, b, if c = 0 then 0 else 1] ok_0_93 rfl (by decide) rfl rfl (fun F => rfl) (fun F hB => iv_app rfl (iv_nx rfl hB) ⟨iv_az _, ⟨iv_az _, ⟨iv_tf _, trivial⟩⟩⟩) F X2 hZ⟩
  | 1, _, hZ => exact ⟨_, Nat.le_of_ble_eq_true rfl, octz_x [a, b, if c = 0 then 0 else 1] ok_1_93 rfl (by decide) rfl rfl (fun F => rfl) (fun F hB => iv_app rfl (iv_nx rfl hB) ⟨iv_az _, ⟨iv_az _, ⟨iv_tf _, trivial⟩⟩⟩) F X2 hZ⟩
  | 2, _, hZ => exact ⟨_, Nat.le_of_ble_eq_true rfl, octz_x [a, b, if c = 0 then 0 else 1] ok_2_93 rfl (by decide) rfl rfl (fun F => rfl) (fun F hB => iv_app rfl (iv_nx rfl hB) ⟨iv_az _, ⟨iv_az _, ⟨iv_tf _, trivial⟩⟩⟩) F X2 hZ⟩
  | 3, _, hZ => exact ⟨_, Nat.le_of_ble_eq_true rfl, octz_x [a, b, if c = 0 then 0 else 1] ok_3_93 rfl (by decide) rfl rfl (fun F => rfl) (fun F hB => iv_app rfl (iv_nx rfl hB) ⟨iv_az _, ⟨iv_az _, ⟨iv_tf _, trivial⟩⟩⟩) F X2 hZ⟩
  | n + 4, h, _ => exact absurd h (by omega)
theorem m_211 (a : Int32) (b : Int32) (c : Int32) : mzT Ls xs jm_M211 [.int (a), .int (b), .int (if c = 0 then 0 else 1)] (fun _ _ => True) (fun σ => σ) := ⟨_, Nat.le_of_ble_eq_true rfl, fun F X1 σ hZ hO => octz_m [a, b, if c = 0 then 0 else 1] ok_4_211 rfl rfl rfl (fun F => rfl) (fun F hB => iv_app rfl (iv_nx rfl hB) ⟨iv_az _, ⟨iv_az _, ⟨iv_tf _, trivial⟩⟩⟩) F X1 hZ⟩
theorem x_94 (a : Int32) (b : Int32) (c : Int32) : xzT Ls xs jm_M94 [.int (a), .int (b), .int (c)] (fun _ _ => True) (fun σ => σ) := by
  intro s F X2 σ hs hZ hO
  match s, hs, hZ with
  | 0, _, hZ => exact ⟨_, Nat.le_of_ble_eq_true rfl, octz_x [a, b, c] ok_0_94 rfl (by decide) rfl rfl (fun F => rfl) (fun F hB => iv_app rfl (iv_nx rfl hB) ⟨iv_az _, ⟨iv_az _, ⟨iv_az _, trivial⟩⟩⟩) F X2 hZ⟩
  | 1, _, hZ => exact ⟨_, Nat.le_of_ble_eq_true rfl, octz_x [a, b, c] ok_1_94 rfl (by decide) rfl rfl (fun F => rfl) (fun F hB => iv_app rfl (iv_nx rfl hB) ⟨iv_az _, ⟨iv_az _, ⟨iv_az _, trivial⟩⟩⟩) F X2 hZ⟩
  | 2, _, hZ => exact ⟨_, Nat.le_of_ble_eq_true rfl, octz_x [a, b, c] ok_2_94 rfl (by decide) rfl rfl (fun F => rfl) (fun F hB => iv_app rfl (iv_nx rfl hB) ⟨iv_az _, ⟨iv_az _, ⟨iv_az _, trivial⟩⟩⟩) F X2 hZ⟩
  | 3, _, hZ => exact ⟨_, Nat.le_of_ble_eq_true rfl, octz_x [a, b, c] ok_3_94 rfl (by decide) rfl rfl (fun F => rfl) (fun F hB => iv_app rfl (iv_nx rfl hB) ⟨iv_az _, ⟨iv_az _, ⟨iv_az _, trivial⟩⟩⟩) F X2 hZ⟩
  | n + 4, h, _ => exact absurd h (by omega)
theorem m_213 (a : Int32) (b : Int32) (c : Int32) : mzT Ls xs jm_M213 [.int (a), .int (b), .int (c)] (fun _ _ => True) (fun σ => σ) := ⟨_, Nat.le_of_ble_eq_true rfl, fun F X1 σ hZ hO => octz_m [a, b, c] ok_4_213 rfl rfl rfl (fun F => rfl) (fun F hB => iv_app rfl (iv_nx rfl hB) ⟨iv_az _, ⟨iv_az _, ⟨iv_az _, trivial⟩⟩⟩) F X1 hZ⟩
theorem x_95 (a : Int32) (b : Int32) (c : Int32) : xzT Ls xs jm_M95 [.int (a), .int (b), .int (c)] (fun _ _ => True) (fun σ => σ) := by
  intro s F X2 σ hs hZ hO
  match s, hs, hZ with
  | 0, _, hZ => exact ⟨_, Nat.le_of_ble_eq_true rfl, octz_x [a, b, c] ok_0_95 rfl (by decide) rfl rfl (fun F => rfl) (fun F hB => iv_app rfl (iv_nx rfl hB) ⟨iv_az _, ⟨iv_az _, ⟨iv_az _, trivial⟩⟩⟩) F X2 hZ⟩
  | 1, _, hZ => exact ⟨_, Nat.le_of_ble_eq_true rfl, octz_x [a, b, c] ok_1_95 rfl (by decide) rfl rfl (fun F => rfl) (fun F hB => iv_app rfl (iv_nx rfl hB) ⟨iv_az _, ⟨iv_az _, ⟨iv_az _, trivial⟩⟩⟩) F X2 hZ⟩
  | 2, _, hZ => exact ⟨_, Nat.le_of_ble_eq_true rfl, octz_x [a, b, c] ok_2_95 rfl (by decide) rfl rfl (fun F => rfl) (fun F hB => iv_app rfl (iv_nx rfl hB) ⟨iv_az _, ⟨iv_az _, ⟨iv_az _, trivial⟩⟩⟩) F X2 hZ⟩
  | 3, _, hZ => exact ⟨_, Nat.le_of_ble_eq_true rfl, octz_x [a, b, c] ok_3_95 rfl (by decide) rfl rfl (fun F => rfl) (fun F hB => iv_app rfl (iv_nx rfl hB) ⟨iv_az _, ⟨iv_az _, ⟨iv_az _, trivial⟩⟩⟩) F X2 hZ⟩
  | n + 4, h, _ => exact absurd h (by omega)
theorem m_214 (a : Int32) (b : Int32) (c : Int32) : mzT Ls xs jm_M214 [.int (a), .int (b), .int (c)] (fun _ _ => True) (fun σ => σ) := ⟨_, Nat.le_of_ble_eq_true rfl, fun F X1 σ hZ hO => octz_m [a, b, c] ok_4_214 rfl rfl rfl (fun F => rfl) (fun F hB => iv_app rfl (iv_nx rfl hB) ⟨iv_az _, ⟨iv_az _, ⟨iv_az _, trivial⟩⟩⟩) F X1 hZ⟩
theorem x_96 (a : Int32) (b : Int32) : xzT Ls xs jm_M96 [.int (a), .int (b)] (fun _ _ => True) (fun σ => σ) := by
  intro s F X2 σ hs hZ hO
  match s, hs, hZ with
  | 0, _, hZ => exact ⟨_, Nat.le_of_ble_eq_true rfl, octz_x [a, b] ok_0_96 rfl (by decide) rfl rfl (fun F => rfl) (fun F hB => iv_app rfl (iv_nx rfl hB) ⟨iv_az _, ⟨iv_az _, trivial⟩⟩) F X2 hZ⟩
  | 1, _, hZ => exact ⟨_, Nat.le_of_ble_eq_true rfl, octz_x [a, b] ok_1_96 rfl (by decide) rfl rfl (fun F => rfl) (fun F hB => iv_app rfl (iv_nx rfl hB) ⟨iv_az _, ⟨iv_az _, trivial⟩⟩) F X2 hZ⟩
  | 2, _, hZ => exact ⟨_, Nat.le_of_ble_eq_true rfl, octz_x [a, b] ok_2_96 rfl (by decide) rfl rfl (fun F => rfl) (fun F hB => iv_app rfl (iv_nx rfl hB) ⟨iv_az _, ⟨iv_az _, trivial⟩⟩) F X2 hZ⟩
  | 3, _, hZ => exact ⟨_, Nat.le_of_ble_eq_true rfl, octz_x [a, b] ok_3_96 rfl (by decide) rfl rfl (fun F => rfl) (fun F hB => iv_app rfl (iv_nx rfl hB) ⟨iv_az _, ⟨iv_az _, trivial⟩⟩) F X2 hZ⟩
  | n + 4, h, _ => exact absurd h (by omega)
theorem m_215 (a : Int32) (b : Int32) : mzT Ls xs jm_M215 [.int (a), .int (b)] (fun _ _ => True) (fun σ => σ) := ⟨_, Nat.le_of_ble_eq_true rfl, fun F X1 σ hZ hO => octz_m [a, b] ok_4_215 rfl rfl rfl (fun F => rfl) (fun F hB => iv_app rfl (iv_nx rfl hB) ⟨iv_az _, ⟨iv_az _, trivial⟩⟩) F X1 hZ⟩
theorem x_97 (a : Int32) (b : Int32) : xzT Ls xs jm_M97 [.int (a), .int (b)] (fun _ _ => True) (fun σ => σ) := by
  intro s F X2 σ hs hZ hO
  match s, hs, hZ with
  | 0, _, hZ => exact ⟨_, Nat.le_of_ble_eq_true rfl, octz_x [a, b] ok_0_97 rfl (by decide) rfl rfl (fun F => rfl) (fun F hB => iv_app rfl (iv_nx rfl hB) ⟨iv_az _, ⟨iv_az _, trivial⟩⟩) F X2 hZ⟩
  | 1, _, hZ => exact ⟨_, Nat.le_of_ble_eq_true rfl, octz_x [a, b] ok_1_97 rfl (by decide) rfl rfl (fun F => rfl) (fun F hB => iv_app rfl (iv_nx rfl hB) ⟨iv_az _, ⟨iv_az _, trivial⟩⟩) F X2 hZ⟩
  | 2, _, hZ => exact ⟨_, Nat.le_of_ble_eq_true rfl, octz_x [a, b] ok_2_97 rfl (by decide) rfl rfl (fun F => rfl) (fun F hB => iv_app rfl (iv_nx rfl hB) ⟨iv_az _, ⟨iv_az _, trivial⟩⟩) F X2 hZ⟩
  | 3, _, hZ => exact ⟨_, Nat.le_of_ble_eq_true rfl, octz_x [a, b] ok_3_97 rfl (by decide) rfl rfl (fun F => rfl) (fun F hB => iv_app rfl (iv_nx rfl hB) ⟨iv_az _, ⟨iv_az _, trivial⟩⟩) F X2 hZ⟩
  | n + 4, h, _ => exact absurd h (by omega)
theorem m_216 (a : Int32) (b : Int32) : mzT Ls xs jm_M216 [.int (a), .int (b)] (fun _ _ => True) (fun σ => σ) := ⟨_, Nat.le_of_ble_eq_true rfl, fun F X1 σ hZ hO => octz_m [a, b] ok_4_216 rfl rfl rfl (fun F => rfl) (fun F hB => iv_app rfl (iv_nx rfl hB) ⟨iv_az _, ⟨iv_az _, trivial⟩⟩) F X1 hZ⟩
theorem x_98 (a : Int32) (b : Int32) : xzT Ls xs jm_M98 [.int (a), .int (b)] (fun _ _ => True) (fun σ => σ) := by
  intro s F X2 σ hs hZ hO
  match s, hs, hZ with
  | 0, _, hZ => exact ⟨_, Nat.le_of_ble_eq_true rfl, octz_x [a, b] ok_0_98 rfl (by decide) rfl rfl (fun F => rfl) (fun F hB => iv_app rfl (iv_nx rfl hB) ⟨iv_az _, ⟨iv_az _, trivial⟩⟩) F X2 hZ⟩
  | 1, _, hZ => exact ⟨_, Nat.le_of_ble_eq_true rfl, octz_x [a, b] ok_1_98 rfl (by decide) rfl rfl (fun F => rfl) (fun F hB => iv_app rfl (iv_nx rfl hB) ⟨iv_az _, ⟨iv_az _, trivial⟩⟩) F X2 hZ⟩
  | 2, _, hZ => exact ⟨_, Nat.le_of_ble_eq_true rfl, octz_x [a, b] ok_2_98 rfl (by decide) rfl rfl (fun F => rfl) (fun F hB => iv_app rfl (iv_nx rfl hB) ⟨iv_az _, ⟨iv_az _, trivial⟩⟩) F X2 hZ⟩
  | 3, _, hZ => exact ⟨_, Nat.le_of_ble_eq_true rfl, octz_x [a, b] ok_3_98 rfl (by decide) rfl rfl (fun F => rfl) (fun F hB => iv_app rfl (iv_nx rfl hB) ⟨iv_az _, ⟨iv_az _, trivial⟩⟩) F X2 hZ⟩
  | n + 4, h, _ => exact absurd h (by omega)
theorem m_217 (a : Int32) (b : Int32) : mzT Ls xs jm_M217 [.int (a), .int (b)] (fun _ _ => True) (fun σ => σ) := ⟨_, Nat.le_of_ble_eq_true rfl, fun F X1 σ hZ hO => octz_m [a, b] ok_4_217 rfl rfl rfl (fun F => rfl) (fun F hB => iv_app rfl (iv_nx rfl hB) ⟨iv_az _, ⟨iv_az _, trivial⟩⟩) F X1 hZ⟩
theorem x_99 (a : Int32) : xzT Ls xs jm_M99 [.int (a)] (fun _ _ => True) (fun σ => σ) := by
  intro s F X2 σ hs hZ hO
  match s, hs, hZ with
  | 0, _, hZ => exact ⟨_, Nat.le_of_ble_eq_true rfl, octz_x [a] ok_0_99 rfl (by decide) rfl rfl (fun F => rfl) (fun F hB => iv_app rfl (iv_nx rfl hB) ⟨iv_az _, trivial⟩) F X2 hZ⟩
  | 1, _, hZ => exact ⟨_, Nat.le_of_ble_eq_true rfl, octz_x [a] ok_1_99 rfl (by decide) rfl rfl (fun F => rfl) (fun F hB => iv_app rfl (iv_nx rfl hB) ⟨iv_az _, trivial⟩) F X2 hZ⟩
  | 2, _, hZ => exact ⟨_, Nat.le_of_ble_eq_true rfl, octz_x [a] ok_2_99 rfl (by decide) rfl rfl (fun F => rfl) (fun F hB => iv_app rfl (iv_nx rfl hB) ⟨iv_az _, trivial⟩) F X2 hZ⟩
  | 3, _, hZ => exact ⟨_, Nat.le_of_ble_eq_true rfl, octz_x [a] ok_3_99 rfl (by decide) rfl rfl (fun F => rfl) (fun F hB => iv_app rfl (iv_nx rfl hB) ⟨iv_az _, trivial⟩) F X2 hZ⟩
  | n + 4, h, _ => exact absurd h (by omega)
theorem m_219 (a : Int32) : mzT Ls xs jm_M219 [.int (a)] (fun _ _ => True) (fun σ => σ) := ⟨_, Nat.le_of_ble_eq_true rfl, fun F X1 σ hZ hO => octz_m [a] ok_4_219 rfl rfl rfl (fun F => rfl) (fun F hB => iv_app rfl (iv_nx rfl hB) ⟨iv_az _, trivial⟩) F X1 hZ⟩
theorem x_100 (a : Int32) : xzT Ls xs jm_M100 [.int (if a = 0 then 0 else 1)] (fun _ _ => True) (fun σ => σ) := by
  intro s F X2 σ hs hZ hO
  match s, hs, hZ with
  | 0, _, hZ => exact ⟨_, Nat.le_of_ble_eq_true rfl, octz_x [if a = 0 then 0 else 1] ok_0_100 rfl (by decide) rfl rfl (fun F => rfl) (fun F hB => iv_app rfl (iv_nx rfl hB) ⟨iv_tf _, trivial⟩) F X2 hZ⟩
  | 1, _, hZ => exact ⟨_, Nat.le_of_ble_eq_true rfl, octz_x [if a = 0 then 0 else 1] ok_1_100 rfl (by decide) rfl rfl (fun F => rfl) (fun F hB => iv_app rfl (iv_nx rfl hB) ⟨iv_tf _, trivial⟩) F X2 hZ⟩
  | 2, _, hZ => exact ⟨_, Nat.le_of_ble_eq_true rfl, octz_x [if a = 0 then 0 else 1] ok_2_100 rfl (by decide) rfl rfl (fun F => rfl) (fun F hB => iv_app rfl (iv_nx rfl hB) ⟨iv_tf _, trivial⟩) F X2 hZ⟩
  | 3, _, hZ => exact ⟨_, Nat.le_of_ble_eq_true rfl, octz_x [if a = 0 then 0 else 1] ok_3_100 rfl (by decide) rfl rfl (fun F => rfl) (fun F hB => iv_app rfl (iv_nx rfl hB) ⟨iv_tf _, trivial⟩) F X2 hZ⟩
  | n + 4, h, _ => exact absurd h (by omega)
theorem m_220 (a : Int32) : mzT Ls xs jm_M220 [.int (if a = 0 then 0 else 1)] (fun _ _ => True) (fun σ => σ) := ⟨_, Nat.le_of_ble_eq_true rfl, fun F X1 σ hZ hO => octz_m [if a = 0 then 0 else 1] ok_4_220 rfl rfl rfl (fun F => rfl) (fun F hB => iv_app rfl (iv_nx rfl hB) ⟨iv_tf _, trivial⟩) F X1 hZ⟩
theorem x_101 (a : Int32) : xzT Ls xs jm_M101 [.int (a)] (fun _ _ => True) (fun σ => σ) := by
  intro s F X2 σ hs hZ hO
  match s, hs, hZ with
  | 0, _, hZ => exact ⟨_, Nat.le_of_ble_eq_true rfl, octz_x [a] ok_0_101 rfl (by decide) rfl rfl (fun F => rfl) (fun F hB => iv_app rfl (iv_nx rfl hB) ⟨iv_az _, trivial⟩) F X2 hZ⟩
  | 1, _, hZ => exact ⟨_, Nat.le_of_ble_eq_true rfl, octz_x [a] ok_1_101 rfl (by decide) rfl rfl (fun F => rfl) (fun F hB => iv_app rfl (iv_nx rfl hB) ⟨iv_az _, trivial⟩) F X2 hZ⟩
  | 2, _, hZ => exact ⟨_, Nat.le_of_ble_eq_true rfl, octz_x [a] ok_2_101 rfl (by decide) rfl rfl (fun F => rfl) (fun F hB => iv_app rfl (iv_nx rfl hB) ⟨iv_az _, trivial⟩) F X2 hZ⟩
  | 3, _, hZ => exact ⟨_, Nat.le_of_ble_eq_true rfl, octz_x [a] ok_3_101 rfl (by decide) rfl rfl (fun F => rfl) (fun F hB => iv_app rfl (iv_nx rfl hB) ⟨iv_az _, trivial⟩) F X2 hZ⟩
  | n + 4, h, _ => exact absurd h (by omega)
theorem m_221 (a : Int32) : mzT Ls xs jm_M221 [.int (a)] (fun _ _ => True) (fun σ => σ) := ⟨_, Nat.le_of_ble_eq_true rfl, fun F X1 σ hZ hO => octz_m [a] ok_4_221 rfl rfl rfl (fun F => rfl) (fun F hB => iv_app rfl (iv_nx rfl hB) ⟨iv_az _, trivial⟩) F X1 hZ⟩
theorem x_102 (a : Int32) (b : Int32) (c : Int32) : xzT Ls xs jm_M102 [.int (a), .int (b), .int (c)] (fun _ _ => True) (fun σ => σ) := by
  intro s F X2 σ hs hZ hO
  match s, hs, hZ with
  | 0, _, hZ => exact ⟨_, Nat.le_of_ble_eq_true rfl, octz_x [a, b, c] ok_0_102 rfl (by decide) rfl rfl (fun F => rfl) (fun F hB => iv_app rfl (iv_nx rfl hB) ⟨iv_az _, ⟨iv_az _, ⟨iv_az _, trivial⟩⟩⟩) F X2 hZ⟩
  | 1, _, hZ => exact ⟨_, Nat.le_of_ble_eq_true rfl, octz_x [a, b, c] ok_1_102 rfl (by decide) rfl rfl (fun F => rfl) (fun F hB => iv_app rfl (iv_nx rfl hB) ⟨iv_az _, ⟨iv_az _, ⟨iv_az _, trivial⟩⟩⟩) F X2 hZ⟩
  | 2, _, hZ => exact ⟨_, Nat.le_of_ble_eq_true rfl, octz_x [a, b, c] ok_2_102 rfl (by decide) rfl rfl (fun F => rfl) (fun F hB => iv_app rfl (iv_nx rfl hB) ⟨iv_az _, ⟨iv_az _, ⟨iv_az _, trivial⟩⟩⟩) F X2 hZ⟩
  | 3, _, hZ => exact ⟨_, Nat.le_of_ble_eq_true rfl, octz_x [a, b, c] ok_3_102 rfl (by decide) rfl rfl (fun F => rfl) (fun F hB => iv_app rfl (iv_nx rfl hB) ⟨iv_az _, ⟨iv_az _, ⟨iv_az _, trivial⟩⟩⟩) F X2 hZ⟩
  | n + 4, h, _ => exact absurd h (by omega)
theorem m_222 (a : Int32) (b : Int32) (c : Int32) : mzT Ls xs jm_M222 [.int (a), .int (b), .int (c)] (fun _ _ => True) (fun σ => σ) := ⟨_, Nat.le_of_ble_eq_true rfl, fun F X1 σ hZ hO => octz_m [a, b, c] ok_4_222 rfl rfl rfl (fun F => rfl) (fun F hB => iv_app rfl (iv_nx rfl hB) ⟨iv_az _, ⟨iv_az _, ⟨iv_az _, trivial⟩⟩⟩) F X1 hZ⟩
theorem x_103 (a : Int32) (b : Int32) : xzT Ls xs jm_M103 [.int (a), .int (b)] (fun _ _ => True) (fun σ => σ) := by
  intro s F X2 σ hs hZ hO
  match s, hs, hZ with
  | 0, _, hZ => exact ⟨_, Nat.le_of_ble_eq_true rfl, octz_x [a, b] ok_0_103 rfl (by decide) rfl rfl (fun F => rfl) (fun F hB => iv_app rfl (iv_nx rfl hB) ⟨iv_az _, ⟨iv_az _, trivial⟩⟩) F X2 hZ⟩
  | 1, _, hZ => exact ⟨_, Nat.le_of_ble_eq_true rfl, octz_x [a, b] ok_1_103 rfl (by decide) rfl rfl (fun F => rfl) (fun F hB => iv_app rfl (iv_nx rfl hB) ⟨iv_az _, ⟨iv_az _, trivial⟩⟩) F X2 hZ⟩
  | 2, _, hZ => exact ⟨_, Nat.le_of_ble_eq_true rfl, octz_x [a, b] ok_2_103 rfl (by decide) rfl rfl (fun F => rfl) (fun F hB => iv_app rfl (iv_nx rfl hB) ⟨iv_az _, ⟨iv_az _, trivial⟩⟩) F X2 hZ⟩
  | 3, _, hZ => exact ⟨_, Nat.le_of_ble_eq_true rfl, octz_x [a, b] ok_3_103 rfl (by decide) rfl rfl (fun F => rfl) (fun F hB => iv_app rfl (iv_nx rfl hB) ⟨iv_az _, ⟨iv_az _, trivial⟩⟩) F X2 hZ⟩
  | n + 4, h, _ => exact absurd h (by omega)
theorem m_223 (a : Int32) (b : Int32) : mzT Ls xs jm_M223 [.int (a), .int (b)] (fun _ _ => True) (fun σ => σ) := ⟨_, Nat.le_of_ble_eq_true rfl, fun F X1 σ hZ hO => octz_m [a, b] ok_4_223 rfl rfl rfl (fun F => rfl) (fun F hB => iv_app rfl (iv_nx rfl hB) ⟨iv_az _, ⟨iv_az _, trivial⟩⟩) F X1 hZ⟩
theorem x_104 (a : Int32) (b : Int32) : xzT Ls xs jm_M104 [.int (a), .int (b)] (fun _ _ => True) (fun σ => σ) := by
  intro s F X2 σ hs hZ hO
  match s, hs, hZ with
  | 0, _, hZ => exact ⟨_, Nat.le_of_ble_eq_true rfl, octz_x [a, b] ok_0_104 rfl (by decide) rfl rfl (fun F => rfl) (fun F hB => iv_app rfl (iv_nx rfl hB) ⟨iv_az _, ⟨iv_az _, trivial⟩⟩) F X2 hZ⟩
  | 1, _, hZ => exact ⟨_, Nat.le_of_ble_eq_true rfl, octz_x [a, b] ok_1_104 rfl (by decide) rfl rfl (fun F => rfl) (fun F hB => iv_app rfl (iv_nx rfl hB) ⟨iv_az _, ⟨iv_az _, trivial⟩⟩) F X2 hZ⟩
  | 2, _, hZ => exact ⟨_, Nat.le_of_ble_eq_true rfl, octz_x [a, b] ok_2_104 rfl (by decide) rfl rfl (fun F => rfl) (fun F hB => iv_app rfl (iv_nx rfl hB) ⟨iv_az _, ⟨iv_az _, trivial⟩⟩) F X2 hZ⟩
  | 3, _, hZ => exact ⟨_, Nat.le_of_ble_eq_true rfl, octz_x [a, b] ok_3_104 rfl (by decide) rfl rfl (fun F => rfl) (fun F hB => iv_app rfl (iv_nx rfl hB) ⟨iv_az _, ⟨iv_az _, trivial⟩⟩) F X2 hZ⟩
  | n + 4, h, _ => exact absurd h (by omega)
theorem m_224 (a : Int32) (b : Int32) : mzT Ls xs jm_M224 [.int (a), .int (b)] (fun _ _ => True) (fun σ => σ) := ⟨_, Nat.le_of_ble_eq_true rfl, fun F X1 σ hZ hO => octz_m [a, b] ok_4_224 rfl rfl rfl (fun F => rfl) (fun F hB => iv_app rfl (iv_nx rfl hB) ⟨iv_az _, ⟨iv_az _, trivial⟩⟩) F X1 hZ⟩
theorem x_105 (a : Int32) : xzT Ls xs jm_M105 [.int (a)] (fun _ _ => True) (fun σ => σ) := by
  intro s F X2 σ hs hZ hO
  match s, hs, hZ with
  | 0, _, hZ => exact ⟨_, Nat.le_of_ble_eq_true rfl, octz_x [a] ok_0_105 rfl (by decide) rfl rfl (fun F => rfl) (fun F hB => iv_app rfl (iv_nx rfl hB) ⟨iv_az _, trivial⟩) F X2 hZ⟩
  | 1, _, hZ => exact ⟨_, Nat.le_of_ble_eq_true rfl, octz_x [a] ok_1_105 rfl (by decide) rfl rfl (fun F => rfl) (fun F hB => iv_app rfl (iv_nx rfl hB) ⟨iv_az _, trivial⟩) F X2 hZ⟩
  | 2, _, hZ => exact ⟨_, Nat.le_of_ble_eq_true rfl, octz_x [a] ok_2_105 rfl (by decide) rfl rfl (fun F => rfl) (fun F hB => iv_app rfl (iv_nx rfl hB) ⟨iv_az _, trivial⟩) F X2 hZ⟩
  | 3, _, hZ => exact ⟨_, Nat.le_of_ble_eq_true rfl, octz_x [a] ok_3_105 rfl (by decide) rfl rfl (fun F => rfl) (fun F hB => iv_app rfl (iv_nx rfl hB) ⟨iv_az _, trivial⟩) F X2 hZ⟩
  | n + 4, h, _ => exact absurd h (by omega)
theorem m_225 (a : Int32) : mzT Ls xs jm_M225 [.int (a)] (fun _ _ => True) (fun σ => σ) := ⟨_, Nat.le_of_ble_eq_true rfl, fun F X1 σ hZ hO => octz_m [a] ok_4_225 rfl rfl rfl (fun F => rfl) (fun F hB => iv_app rfl (iv_nx rfl hB) ⟨iv_az _, trivial⟩) F X1 hZ⟩
theorem x_106  : xzT Ls xs jm_M106 [] (fun _ _ => True) (fun σ => σ) := by
  intro s F X2 σ hs hZ hO
  match s, hs, hZ with
  | 0, _, hZ => exact ⟨_, Nat.le_of_ble_eq_true rfl, octz_x [] ok_0_106 rfl (by decide) rfl rfl (fun F => rfl) (fun F hB => iv_nx rfl hB) F X2 hZ⟩
  | 1, _, hZ => exact ⟨_, Nat.le_of_ble_eq_true rfl, octz_x [] ok_1_106 rfl (by decide) rfl rfl (fun F => rfl) (fun F hB => iv_nx rfl hB) F X2 hZ⟩
  | 2, _, hZ => exact ⟨_, Nat.le_of_ble_eq_true rfl, octz_x [] ok_2_106 rfl (by decide) rfl rfl (fun F => rfl) (fun F hB => iv_nx rfl hB) F X2 hZ⟩
  | 3, _, hZ => exact ⟨_, Nat.le_of_ble_eq_true rfl, octz_x [] ok_3_106 rfl (by decide) rfl rfl (fun F => rfl) (fun F hB => iv_nx rfl hB) F X2 hZ⟩
  | n + 4, h, _ => exact absurd h (by omega)
theorem m_226  : mzT Ls xs jm_M226 [] (fun _ _ => True) (fun σ => σ) := ⟨_, Nat.le_of_ble_eq_true rfl, fun F X1 σ hZ hO => octz_m [] ok_4_226 rfl rfl rfl (fun F => rfl) (fun F hB => iv_nx rfl hB) F X1 hZ⟩
theorem x_107 (a : Int32) (b : Int32) (c : Int32) (d : Int32) : xzT Ls xs jm_M107 [.int (a), .int (b), .int (c), .int (d)] (fun _ _ => True) (fun σ => σ) := by
  intro s F X2 σ hs hZ hO
  match s, hs, hZ with
  | 0, _, hZ => exact ⟨_, Nat.le_of_ble_eq_true rfl, octz_x [a, b, c, d] ok_0_107 rfl (by decide) rfl rfl (fun F => rfl) (fun F hB => iv_app rfl (iv_nx rfl hB) ⟨iv_az _, ⟨iv_az _, ⟨iv_az _, ⟨iv_az _, trivial⟩⟩⟩⟩) F X2 hZ⟩
  | 1, _, hZ => exact ⟨_, Nat.le_of_ble_eq_true rfl, octz_x [a, b, c, d] ok_1_107 rfl (by decide) rfl rfl (fun F => rfl) (fun F hB => iv_app rfl (iv_nx rfl hB) ⟨iv_az _, ⟨iv_az _, ⟨iv_az _, ⟨iv_az _, trivial⟩⟩⟩⟩) F X2 hZ⟩
  | 2, _, hZ => exact ⟨_, Nat.le_of_ble_eq_true rfl, octz_x [a, b, c, d] ok_2_107 rfl (by decide) rfl rfl (fun F => rfl) (fun F hB => iv_app rfl (iv_nx rfl hB) ⟨iv_az _, ⟨iv_az _, ⟨iv_az _, ⟨iv_az _, trivial⟩⟩⟩⟩) F X2 hZ⟩
  | 3, _, hZ => exact ⟨_, Nat.le_of_ble_eq_true rfl, octz_x [a, b, c, d] ok_3_107 rfl (by decide) rfl rfl (fun F => rfl) (fun F hB => iv_app rfl (iv_nx rfl hB) ⟨iv_az _, ⟨iv_az _, ⟨iv_az _, ⟨iv_az _, trivial⟩⟩⟩⟩) F X2 hZ⟩
  | n + 4, h, _ => exact absurd h (by omega)
theorem m_227 (a : Int32) (b : Int32) (c : Int32) (d : Int32) : mzT Ls xs jm_M227 [.int (a), .int (b), .int (c), .int (d)] (fun _ _ => True) (fun σ => σ) := ⟨_, Nat.le_of_ble_eq_true rfl, fun F X1 σ hZ hO => octz_m [a, b, c, d] ok_4_227 rfl rfl rfl (fun F => rfl) (fun F hB => iv_app rfl (iv_nx rfl hB) ⟨iv_az _, ⟨iv_az _, ⟨iv_az _, ⟨iv_az _, trivial⟩⟩⟩⟩) F X1 hZ⟩
theorem x_115 (a : Int32) : xzT Ls xs jm_M115 [.int (a)] (fun _ _ => True) (fun σ => σ) := by
  intro s F X2 σ hs hZ hO
  match s, hs, hZ with
  | 0, _, hZ => exact ⟨_, Nat.le_of_ble_eq_true rfl, octz_x [a] ok_0_115 rfl (by decide) rfl rfl (fun F => rfl) (fun F hB => iv_app rfl (iv_nx rfl hB) ⟨iv_az _, trivial⟩) F X2 hZ⟩
  | 1, _, hZ => exact ⟨_, Nat.le_of_ble_eq_true rfl, octz_x [a] ok_1_115 rfl (by decide) rfl rfl (fun F => rfl) (fun F hB => iv_app rfl (iv_nx rfl hB) ⟨iv_az _, trivial⟩) F X2 hZ⟩
  | 2, _, hZ => exact ⟨_, Nat.le_of_ble_eq_true rfl, octz_x [a] ok_2_115 rfl (by decide) rfl rfl (fun F => rfl) (fun F hB => iv_app rfl (iv_nx rfl hB) ⟨iv_az _, trivial⟩) F X2 hZ⟩
  | 3, _, hZ => exact ⟨_, Nat.le_of_ble_eq_true rfl, octz_x [a] ok_3_115 rfl (by decide) rfl rfl (fun F => rfl) (fun F hB => iv_app rfl (iv_nx rfl hB) ⟨iv_az _, trivial⟩) F X2 hZ⟩
  | n + 4, h, _ => exact absurd h (by omega)
theorem m_238 (a : Int32) : mzT Ls xs jm_M238 [.int (a)] (fun _ _ => True) (fun σ => σ) := ⟨_, Nat.le_of_ble_eq_true rfl, fun F X1 σ hZ hO => octz_m [a] ok_4_238 rfl rfl rfl (fun F => rfl) (fun F hB => iv_app rfl (iv_nx rfl hB) ⟨iv_az _, trivial⟩) F X1 hZ⟩
end MM
