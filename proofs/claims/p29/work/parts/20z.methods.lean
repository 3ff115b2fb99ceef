/-! ===== each method of the two, from any cells that keep the bounds ===== -/
section MM
variable {Ls : Nat} {xs : Nat → Int32}
theorem x_81 (a : Int32) (b : Int32) (c : Int32) (d : Int32) (e : Int32) : oxT Ls xs jm_M81 [.int (a), .int (b), .int (c), .int (d), .int (e)] (fun x r => r.toInt = a_feed x) (s_feed a b c d e) := by
  intro s F X2 hs hB hJ hw
  match s, hs with
  | 0, _ =>
    refine ⟨2, by decide, ?_⟩
    rw [← dh_x F [] X2 (by decide : 0 < 4)]
    refine jm_T_mono (ox0_feed [] X2 F hB hJ hw a b c d e) ?_
    rintro v G ⟨r, t, F', rfl, hV, ht, rfl, h1, h2, h3, h4⟩
    exact ⟨⟨r, rfl, hV⟩, t, F', ht, dh_x F' [] X2 ht, h1, h2, h3, h4⟩
  | 1, _ =>
    refine ⟨2, by decide, ?_⟩
    rw [← dh_x F [] X2 (by decide : 1 < 4)]
    refine jm_T_mono (ox1_feed [] X2 F hB hJ hw a b c d e) ?_
    rintro v G ⟨r, t, F', rfl, hV, ht, rfl, h1, h2, h3, h4⟩
    exact ⟨⟨r, rfl, hV⟩, t, F', ht, dh_x F' [] X2 ht, h1, h2, h3, h4⟩
  | 2, _ =>
    refine ⟨2, by decide, ?_⟩
    rw [← dh_x F [] X2 (by decide : 2 < 4)]
    refine jm_T_mono (ox2_feed [] X2 F hB hJ hw a b c d e) ?_
    rintro v G ⟨r, t, F', rfl, hV, ht, rfl, h1, h2, h3, h4⟩
    exact ⟨⟨r, rfl, hV⟩, t, F', ht, dh_x F' [] X2 ht, h1, h2, h3, h4⟩
  | 3, _ =>
    refine ⟨2, by decide, ?_⟩
    rw [← dh_x F [] X2 (by decide : 3 < 4)]
    refine jm_T_mono (ox3_feed [] X2 F hB hJ hw a b c d e) ?_
    rintro v G ⟨r, t, F', rfl, hV, ht, rfl, h1, h2, h3, h4⟩
    exact ⟨⟨r, rfl, hV⟩, t, F', ht, dh_x F' [] X2 ht, h1, h2, h3, h4⟩
  | n + 4, h => exact absurd h (by omega)
theorem m_133 (a : Int32) (b : Int32) (c : Int32) (d : Int32) (e : Int32) : omT Ls xs jm_M133 [.int (a), .int (b), .int (c), .int (d), .int (e)] (fun x r => r.toInt = a_feed x) (s_feed a b c d e) := om_feed a b c d e
theorem x_82 (a : Int32) : oxT Ls xs jm_M82 [.int (a)] (fun x r => r.toInt = a_back a x) (s_back a) := by
  intro s F X2 hs hB hJ hw
  match s, hs with
  | 0, _ =>
    refine ⟨1, by decide, ?_⟩
    rw [← dh_x F [] X2 (by decide : 0 < 4)]
    refine jm_T_mono (ox0_back [] X2 F hB hJ hw a) ?_
    rintro v G ⟨r, t, F', rfl, hV, ht, rfl, h1, h2, h3, h4⟩
    exact ⟨⟨r, rfl, hV⟩, t, F', ht, dh_x F' [] X2 ht, h1, h2, h3, h4⟩
  | 1, _ =>
    refine ⟨1, by decide, ?_⟩
    rw [← dh_x F [] X2 (by decide : 1 < 4)]
    refine jm_T_mono (ox1_back [] X2 F hB hJ hw a) ?_
    rintro v G ⟨r, t, F', rfl, hV, ht, rfl, h1, h2, h3, h4⟩
    exact ⟨⟨r, rfl, hV⟩, t, F', ht, dh_x F' [] X2 ht, h1, h2, h3, h4⟩
  | 2, _ =>
    refine ⟨1, by decide, ?_⟩
    rw [← dh_x F [] X2 (by decide : 2 < 4)]
    refine jm_T_mono (ox2_back [] X2 F hB hJ hw a) ?_
    rintro v G ⟨r, t, F', rfl, hV, ht, rfl, h1, h2, h3, h4⟩
    exact ⟨⟨r, rfl, hV⟩, t, F', ht, dh_x F' [] X2 ht, h1, h2, h3, h4⟩
  | 3, _ =>
    refine ⟨1, by decide, ?_⟩
    rw [← dh_x F [] X2 (by decide : 3 < 4)]
    refine jm_T_mono (ox3_back [] X2 F hB hJ hw a) ?_
    rintro v G ⟨r, t, F', rfl, hV, ht, rfl, h1, h2, h3, h4⟩
    exact ⟨⟨r, rfl, hV⟩, t, F', ht, dh_x F' [] X2 ht, h1, h2, h3, h4⟩
  | n + 4, h => exact absurd h (by omega)
theorem m_135 (a : Int32) : omT Ls xs jm_M135 [.int (a)] (fun x r => r.toInt = a_back a x) (s_back a) := om_back a
theorem x_83  : oxT Ls xs jm_M83 [] (fun x r => r.toInt = a_read x) (s_read) := by
  intro s F X2 hs hB hJ hw
  match s, hs with
  | 0, _ =>
    refine ⟨29, by decide, ?_⟩
    rw [← dh_x F [] X2 (by decide : 0 < 4)]
    refine jm_T_mono (ox0_read [] X2 F hB hJ hw ) ?_
    rintro v G ⟨r, t, F', rfl, hV, ht, rfl, h1, h2, h3, h4⟩
    exact ⟨⟨r, rfl, hV⟩, t, F', ht, dh_x F' [] X2 ht, h1, h2, h3, h4⟩
  | 1, _ =>
    refine ⟨29, by decide, ?_⟩
    rw [← dh_x F [] X2 (by decide : 1 < 4)]
    refine jm_T_mono (ox1_read [] X2 F hB hJ hw ) ?_
    rintro v G ⟨r, t, F', rfl, hV, ht, rfl, h1, h2, h3, h4⟩
    exact ⟨⟨r, rfl, hV⟩, t, F', ht, dh_x F' [] X2 ht, h1, h2, h3, h4⟩
  | 2, _ =>
    refine ⟨29, by decide, ?_⟩
    rw [← dh_x F [] X2 (by decide : 2 < 4)]
    refine jm_T_mono (ox2_read [] X2 F hB hJ hw ) ?_
    rintro v G ⟨r, t, F', rfl, hV, ht, rfl, h1, h2, h3, h4⟩
    exact ⟨⟨r, rfl, hV⟩, t, F', ht, dh_x F' [] X2 ht, h1, h2, h3, h4⟩
  | 3, _ =>
    refine ⟨29, by decide, ?_⟩
    rw [← dh_x F [] X2 (by decide : 3 < 4)]
    refine jm_T_mono (ox3_read [] X2 F hB hJ hw ) ?_
    rintro v G ⟨r, t, F', rfl, hV, ht, rfl, h1, h2, h3, h4⟩
    exact ⟨⟨r, rfl, hV⟩, t, F', ht, dh_x F' [] X2 ht, h1, h2, h3, h4⟩
  | n + 4, h => exact absurd h (by omega)
theorem m_150  : omT Ls xs jm_M150 [] (fun x r => r.toInt = a_read x) (s_read) := om_read 
theorem x_84  : oxT Ls xs jm_M84 [] (fun x r => r.toInt = x.2.2.1) (fun x => x) := by
  intro s F X2 hs hB hJ hw
  match s, hs with
  | 0, _ =>
    refine ⟨1, by decide, ?_⟩
    rw [← dh_x F [] X2 (by decide : 0 < 4)]
    refine jm_T_mono (ox0_place [] X2 F hB hJ hw ) ?_
    rintro v G ⟨r, t, F', rfl, hV, ht, rfl, h1, h2, h3, h4⟩
    exact ⟨⟨r, rfl, hV⟩, t, F', ht, dh_x F' [] X2 ht, h1, h2, h3, h4⟩
  | 1, _ =>
    refine ⟨1, by decide, ?_⟩
    rw [← dh_x F [] X2 (by decide : 1 < 4)]
    refine jm_T_mono (ox1_place [] X2 F hB hJ hw ) ?_
    rintro v G ⟨r, t, F', rfl, hV, ht, rfl, h1, h2, h3, h4⟩
    exact ⟨⟨r, rfl, hV⟩, t, F', ht, dh_x F' [] X2 ht, h1, h2, h3, h4⟩
  | 2, _ =>
    refine ⟨1, by decide, ?_⟩
    rw [← dh_x F [] X2 (by decide : 2 < 4)]
    refine jm_T_mono (ox2_place [] X2 F hB hJ hw ) ?_
    rintro v G ⟨r, t, F', rfl, hV, ht, rfl, h1, h2, h3, h4⟩
    exact ⟨⟨r, rfl, hV⟩, t, F', ht, dh_x F' [] X2 ht, h1, h2, h3, h4⟩
  | 3, _ =>
    refine ⟨1, by decide, ?_⟩
    rw [← dh_x F [] X2 (by decide : 3 < 4)]
    refine jm_T_mono (ox3_place [] X2 F hB hJ hw ) ?_
    rintro v G ⟨r, t, F', rfl, hV, ht, rfl, h1, h2, h3, h4⟩
    exact ⟨⟨r, rfl, hV⟩, t, F', ht, dh_x F' [] X2 ht, h1, h2, h3, h4⟩
  | n + 4, h => exact absurd h (by omega)
theorem m_151  : omT Ls xs jm_M151 [] (fun x r => r.toInt = x.2.2.1) (fun x => x) := om_place 
theorem x_85 (a : Int32) (b : Int32) : oxT Ls xs jm_M85 [.int (a), .int (b)] (fun _ _ => True) (fun x => x) := by
  intro s F X2 hs hB hJ hw
  match s, hs with
  | 0, _ =>
    refine ⟨_, Nat.le_of_ble_eq_true rfl, oct_x [a, b] ok_0_85 rfl (by decide) (by decide) rfl rfl (fun F => rfl) (fun F hB => iv_app rfl (iv_nx rfl hB) ⟨iv_az _, ⟨iv_az _, trivial⟩⟩) F X2 hB hJ hw⟩
  | 1, _ =>
    refine ⟨_, Nat.le_of_ble_eq_true rfl, oct_x [a, b] ok_1_85 rfl (by decide) (by decide) rfl rfl (fun F => rfl) (fun F hB => iv_app rfl (iv_nx rfl hB) ⟨iv_az _, ⟨iv_az _, trivial⟩⟩) F X2 hB hJ hw⟩
  | 2, _ =>
    refine ⟨_, Nat.le_of_ble_eq_true rfl, oct_x [a, b] ok_2_85 rfl (by decide) (by decide) rfl rfl (fun F => rfl) (fun F hB => iv_app rfl (iv_nx rfl hB) ⟨iv_az _, ⟨iv_az _, trivial⟩⟩) F X2 hB hJ hw⟩
  | 3, _ =>
    refine ⟨_, Nat.le_of_ble_eq_true rfl, oct_x [a, b] ok_3_85 rfl (by decide) (by decide) rfl rfl (fun F => rfl) (fun F hB => iv_app rfl (iv_nx rfl hB) ⟨iv_az _, ⟨iv_az _, trivial⟩⟩) F X2 hB hJ hw⟩
  | n + 4, h => exact absurd h (by omega)
theorem m_194 (a : Int32) (b : Int32) : omT Ls xs jm_M194 [.int (a), .int (b)] (fun _ _ => True) (fun x => x) := ⟨_, Nat.le_of_ble_eq_true rfl, fun F X1 hB hJ hw => oct_mm [a, b] ok_4_194 rfl rfl rfl (fun F => rfl) (fun F hB => iv_app rfl (iv_nx rfl hB) ⟨iv_az _, ⟨iv_az _, trivial⟩⟩) F X1 hB hJ hw⟩
theorem x_86 (a : Int32) (b : Int32) : oxT Ls xs jm_M86 [.int (a), .int (b)] (fun _ _ => True) (fun x => x) := by
  intro s F X2 hs hB hJ hw
  match s, hs with
  | 0, _ =>
    refine ⟨_, Nat.le_of_ble_eq_true rfl, oct_x [a, b] ok_0_86 rfl (by decide) (by decide) rfl rfl (fun F => rfl) (fun F hB => iv_app rfl (iv_nx rfl hB) ⟨iv_az _, ⟨iv_az _, trivial⟩⟩) F X2 hB hJ hw⟩
  | 1, _ =>
    refine ⟨_, Nat.le_of_ble_eq_true rfl, oct_x [a, b] ok_1_86 rfl (by decide) (by decide) rfl rfl (fun F => rfl) (fun F hB => iv_app rfl (iv_nx rfl hB) ⟨iv_az _, ⟨iv_az _, trivial⟩⟩) F X2 hB hJ hw⟩
  | 2, _ =>
    refine ⟨_, Nat.le_of_ble_eq_true rfl, oct_x [a, b] ok_2_86 rfl (by decide) (by decide) rfl rfl (fun F => rfl) (fun F hB => iv_app rfl (iv_nx rfl hB) ⟨iv_az _, ⟨iv_az _, trivial⟩⟩) F X2 hB hJ hw⟩
  | 3, _ =>
    refine ⟨_, Nat.le_of_ble_eq_true rfl, oct_x [a, b] ok_3_86 rfl (by decide) (by decide) rfl rfl (fun F => rfl) (fun F hB => iv_app rfl (iv_nx rfl hB) ⟨iv_az _, ⟨iv_az _, trivial⟩⟩) F X2 hB hJ hw⟩
  | n + 4, h => exact absurd h (by omega)
theorem m_195 (a : Int32) (b : Int32) : omT Ls xs jm_M195 [.int (a), .int (b)] (fun _ _ => True) (fun x => x) := ⟨_, Nat.le_of_ble_eq_true rfl, fun F X1 hB hJ hw => oct_mm [a, b] ok_4_195 rfl rfl rfl (fun F => rfl) (fun F hB => iv_app rfl (iv_nx rfl hB) ⟨iv_az _, ⟨iv_az _, trivial⟩⟩) F X1 hB hJ hw⟩
theorem x_87 (a : Int32) (b : Int32) : oxT Ls xs jm_M87 [.int (a), .int (b)] (fun _ _ => True) (fun x => x) := by
  intro s F X2 hs hB hJ hw
  match s, hs with
  | 0, _ =>
    refine ⟨_, Nat.le_of_ble_eq_true rfl, oct_x [a, b] ok_0_87 rfl (by decide) (by decide) rfl rfl (fun F => rfl) (fun F hB => iv_app rfl (iv_nx rfl hB) ⟨iv_az _, ⟨iv_az _, trivial⟩⟩) F X2 hB hJ hw⟩
  | 1, _ =>
    refine ⟨_, Nat.le_of_ble_eq_true rfl, oct_x [a, b] ok_1_87 rfl (by decide) (by decide) rfl rfl (fun F => rfl) (fun F hB => iv_app rfl (iv_nx rfl hB) ⟨iv_az _, ⟨iv_az _, trivial⟩⟩) F X2 hB hJ hw⟩
  | 2, _ =>
    refine ⟨_, Nat.le_of_ble_eq_true rfl, oct_x [a, b] ok_2_87 rfl (by decide) (by decide) rfl rfl (fun F => rfl) (fun F hB => iv_app rfl (iv_nx rfl hB) ⟨iv_az _, ⟨iv_az _, trivial⟩⟩) F X2 hB hJ hw⟩
  | 3, _ =>
    refine ⟨_, Nat.le_of_ble_eq_true rfl, oct_x [a, b] ok_3_87 rfl (by decide) (by decide) rfl rfl (fun F => rfl) (fun F hB => iv_app rfl (iv_nx rfl hB) ⟨iv_az _, ⟨iv_az _, trivial⟩⟩) F X2 hB hJ hw⟩
  | n + 4, h => exact absurd h (by omega)
theorem m_199 (a : Int32) (b : Int32) : omT Ls xs jm_M199 [.int (a), .int (b)] (fun _ _ => True) (fun x => x) := ⟨_, Nat.le_of_ble_eq_true rfl, fun F X1 hB hJ hw => oct_mm [a, b] ok_4_199 rfl rfl rfl (fun F => rfl) (fun F hB => iv_app rfl (iv_nx rfl hB) ⟨iv_az _, ⟨iv_az _, trivial⟩⟩) F X1 hB hJ hw⟩
theorem x_88 (a : Int32) (b : Int32) : oxT Ls xs jm_M88 [.int (a), .int (b)] (fun _ _ => True) (fun x => x) := by
  intro s F X2 hs hB hJ hw
  match s, hs with
  | 0, _ =>
    refine ⟨_, Nat.le_of_ble_eq_true rfl, oct_x [a, b] ok_0_88 rfl (by decide) (by decide) rfl rfl (fun F => rfl) (fun F hB => iv_app rfl (iv_nx rfl hB) ⟨iv_az _, ⟨iv_az _, trivial⟩⟩) F X2 hB hJ hw⟩
  | 1, _ =>
    refine ⟨_, Nat.le_of_ble_eq_true rfl, oct_x [a, b] ok_1_88 rfl (by decide) (by decide) rfl rfl (fun F => rfl) (fun F hB => iv_app rfl (iv_nx rfl hB) ⟨iv_az _, ⟨iv_az _, trivial⟩⟩) F X2 hB hJ hw⟩
  | 2, _ =>
    refine ⟨_, Nat.le_of_ble_eq_true rfl, oct_x [a, b] ok_2_88 rfl (by decide) (by decide) rfl rfl (fun F => rfl) (fun F hB => iv_app rfl (iv_nx rfl hB) ⟨iv_az _, ⟨iv_az _, trivial⟩⟩) F X2 hB hJ hw⟩
  | 3, _ =>
    refine ⟨_, Nat.le_of_ble_eq_true rfl, oct_x [a, b] ok_3_88 rfl (by decide) (by decide) rfl rfl (fun F => rfl) (fun F hB => iv_app rfl (iv_nx rfl hB) ⟨iv_az _, ⟨iv_az _, trivial⟩⟩) F X2 hB hJ hw⟩
  | n + 4, h => exact absurd h (by omega)
theorem m_201 (a : Int32) (b : Int32) : omT Ls xs jm_M201 [.int (a), .int (b)] (fun _ _ => True) (fun x => x) := ⟨_, Nat.le_of_ble_eq_true rfl, fun F X1 hB hJ hw => oct_mm [a, b] ok_4_201 rfl rfl rfl (fun F => rfl) (fun F hB => iv_app rfl (iv_nx rfl hB) ⟨iv_az _, ⟨iv_az _, trivial⟩⟩) F X1 hB hJ hw⟩
theorem x_89 (a : Int32) (b : Int32) : oxT Ls xs jm_M89 [.int (a), .int (if b = 0 then 0 else 1)] (fun _ _ => True) (fun x => x) := by
  intro s F X2 hs hB hJ hw
  match s, hs with
  | 0, _ =>
    refine ⟨_, Nat.le_of_ble_eq_true rfl, oct_x [a, if b = 0 then 0 else 1] ok_0_89 rfl (by decide) (by decide) rfl rfl (fun F => rfl) (fun F hB => iv_app rfl (iv_nx rfl hB) ⟨iv_az _, ⟨iv_tf _, trivial⟩⟩) F X2 hB hJ hw⟩
  | 1, _ =>
    refine ⟨_, Nat.le_of_ble_eq_true rfl, oct_x [a, if b = 0 then 0 else 1] ok_1_89 rfl (by decide) (by decide) rfl rfl (fun F => rfl) (fun F hB => iv_app rfl (iv_nx rfl hB) ⟨iv_az _, ⟨iv_tf _, trivial⟩⟩) F X2 hB hJ hw⟩
  | 2, _ =>
    refine ⟨_, Nat.le_of_ble_eq_true rfl, oct_x [a, if b = 0 then 0 else 1] ok_2_89 rfl (by decide) (by decide) rfl rfl (fun F => rfl) (fun F hB => iv_app rfl (iv_nx rfl hB) ⟨iv_az _, ⟨iv_tf _, trivial⟩⟩) F X2 hB hJ hw⟩
  | 3, _ =>
    refine ⟨_, Nat.le_of_ble_eq_true rfl, oct_x [a, if b = 0 then 0 else 1] ok_3_89 rfl (by decide) (by decide) rfl rfl (fun F => rfl) (fun F hB => iv_app rfl (iv_nx rfl hB) ⟨iv_az _, ⟨iv_tf _, trivial⟩⟩) F X2 hB hJ hw⟩
  | n + 4, h => exact absurd h (by omega)
theorem m_202 (a : Int32) (b : Int32) : omT Ls xs jm_M202 [.int (a), .int (if b = 0 then 0 else 1)] (fun _ _ => True) (fun x => x) := ⟨_, Nat.le_of_ble_eq_true rfl, fun F X1 hB hJ hw => oct_mm [a, if b = 0 then 0 else 1] ok_4_202 rfl rfl rfl (fun F => rfl) (fun F hB => iv_app rfl (iv_nx rfl hB) ⟨iv_az _, ⟨iv_tf _, trivial⟩⟩) F X1 hB hJ hw⟩
theorem x_90 (a : Int32) : oxT Ls xs jm_M90 [.int (a)] (fun _ _ => True) (fun x => x) := by
  intro s F X2 hs hB hJ hw
  match s, hs with
  | 0, _ =>
    refine ⟨_, Nat.le_of_ble_eq_true rfl, oct_x [a] ok_0_90 rfl (by decide) (by decide) rfl rfl (fun F => rfl) (fun F hB => iv_app rfl (iv_nx rfl hB) ⟨iv_az _, trivial⟩) F X2 hB hJ hw⟩
  | 1, _ =>
    refine ⟨_, Nat.le_of_ble_eq_true rfl, oct_x [a] ok_1_90 rfl (by decide) (by decide) rfl rfl (fun F => rfl) (fun F hB => iv_app rfl (iv_nx rfl hB) ⟨iv_az _, trivial⟩) F X2 hB hJ hw⟩
  | 2, _ =>
    refine ⟨_, Nat.le_of_ble_eq_true rfl, oct_x [a] ok_2_90 rfl (by decide) (by decide) rfl rfl (fun F => rfl) (fun F hB => iv_app rfl (iv_nx rfl hB) ⟨iv_az _, trivial⟩) F X2 hB hJ hw⟩
  | 3, _ =>
    refine ⟨_, Nat.le_of_ble_eq_true rfl, oct_x [a] ok_3_90 rfl (by decide) (by decide) rfl rfl (fun F => rfl) (fun F hB => iv_app rfl (iv_nx rfl hB) ⟨iv_az _, trivial⟩) F X2 hB hJ hw⟩
  | n + 4, h => exact absurd h (by omega)
theorem m_203 (a : Int32) : omT Ls xs jm_M203 [.int (a)] (fun _ _ => True) (fun x => x) := ⟨_, Nat.le_of_ble_eq_true rfl, fun F X1 hB hJ hw => oct_mm [a] ok_4_203 rfl rfl rfl (fun F => rfl) (fun F hB => iv_app rfl (iv_nx rfl hB) ⟨iv_az _, trivial⟩) F X1 hB hJ hw⟩
theorem x_91 (a : Int32) : oxT Ls xs jm_M91 [.int (a)] (fun _ _ => True) (fun x => x) := by
  intro s F X2 hs hB hJ hw
  match s, hs with
  | 0, _ =>
    refine ⟨_, Nat.le_of_ble_eq_true rfl, oct_x [a] ok_0_91 rfl (by decide) (by decide) rfl rfl (fun F => rfl) (fun F hB => iv_app rfl (iv_nx rfl hB) ⟨iv_az _, trivial⟩) F X2 hB hJ hw⟩
  | 1, _ =>
    refine ⟨_, Nat.le_of_ble_eq_true rfl, oct_x [a] ok_1_91 rfl (by decide) (by decide) rfl rfl (fun F => rfl) (fun F hB => iv_app rfl (iv_nx rfl hB) ⟨iv_az _, trivial⟩) F X2 hB hJ hw⟩
  | 2, _ =>
    refine ⟨_, Nat.le_of_ble_eq_true rfl, oct_x [a] ok_2_91 rfl (by decide) (by decide) rfl rfl (fun F => rfl) (fun F hB => iv_app rfl (iv_nx rfl hB) ⟨iv_az _, trivial⟩) F X2 hB hJ hw⟩
  | 3, _ =>
    refine ⟨_, Nat.le_of_ble_eq_true rfl, oct_x [a] ok_3_91 rfl (by decide) (by decide) rfl rfl (fun F => rfl) (fun F hB => iv_app rfl (iv_nx rfl hB) ⟨iv_az _, trivial⟩) F X2 hB hJ hw⟩
  | n + 4, h => exact absurd h (by omega)
theorem m_204 (a : Int32) : omT Ls xs jm_M204 [.int (a)] (fun _ _ => True) (fun x => x) := ⟨_, Nat.le_of_ble_eq_true rfl, fun F X1 hB hJ hw => oct_mm [a] ok_4_204 rfl rfl rfl (fun F => rfl) (fun F hB => iv_app rfl (iv_nx rfl hB) ⟨iv_az _, trivial⟩) F X1 hB hJ hw⟩
theorem x_92  : oxT Ls xs jm_M92 [] (fun _ _ => True) (fun x => x) := by
  intro s F X2 hs hB hJ hw
  match s, hs with
  | 0, _ =>
    refine ⟨_, Nat.le_of_ble_eq_true rfl, oct_x [] ok_0_92 rfl (by decide) (by decide) rfl rfl (fun F => rfl) (fun F hB => iv_nx rfl hB) F X2 hB hJ hw⟩
  | 1, _ =>
    refine ⟨_, Nat.le_of_ble_eq_true rfl, oct_x [] ok_1_92 rfl (by decide) (by decide) rfl rfl (fun F => rfl) (fun F hB => iv_nx rfl hB) F X2 hB hJ hw⟩
  | 2, _ =>
    refine ⟨_, Nat.le_of_ble_eq_true rfl, oct_x [] ok_2_92 rfl (by decide) (by decide) rfl rfl (fun F => rfl) (fun F hB => iv_nx rfl hB) F X2 hB hJ hw⟩
  | 3, _ =>
    refine ⟨_, Nat.le_of_ble_eq_true rfl, oct_x [] ok_3_92 rfl (by decide) (by decide) rfl rfl (fun F => rfl) (fun F hB => iv_nx rfl hB) F X2 hB hJ hw⟩
  | n + 4, h => exact absurd h (by omega)
theorem m_205  : omT Ls xs jm_M205 [] (fun _ _ => True) (fun x => x) := ⟨_, Nat.le_of_ble_eq_true rfl, fun F X1 hB hJ hw => oct_mm [] ok_4_205 rfl rfl rfl (fun F => rfl) (fun F hB => iv_nx rfl hB) F X1 hB hJ hw⟩
theorem x_93 (a : Int32) (b : Int32) (c : Int32) : oxT Ls xs jm_M93 [.int (a), .int (b), .int (if c = 0 then 0 else 1)] (fun _ _ => True) (fun x => x) := by
  intro s F X2 hs hB hJ hw
  match s, hs with
  | 0, _ =>
    refine ⟨_, Nat.le_of_ble_eq_true rfl, oct_x [a, b, if c = 0 then 0 else 1] ok_0_93 rfl (by decide) (by decide) rfl rfl (fun F => rfl) (fun F hB => iv_app rfl (iv_nx rfl hB) ⟨iv_az _, ⟨iv_az _, ⟨iv_tf _, trivial⟩⟩⟩) F X2 hB hJ hw⟩
  | 1, _ =>
    refine ⟨_, Nat.le_of_ble_eq_true rfl, oct_x [a, b, if c = 0 then 0 else 1] ok_1_93 rfl (by decide) (by decide) rfl rfl (fun F => rfl) (fun F hB => iv_app rfl (iv_nx rfl hB) ⟨iv_az _, ⟨iv_az _, ⟨iv_tf _, trivial⟩⟩⟩) F X2 hB hJ hw⟩
  | 2, _ =>
    refine ⟨_, Nat.le_of_ble_eq_true rfl, oct_x [a, b, if c = 0 then 0 else 1] ok_2_93 rfl (by decide) (by decide) rfl rfl (fun F => rfl) (fun F hB => iv_app rfl (iv_nx rfl hB) ⟨iv_az _, ⟨iv_az _, ⟨iv_tf _, trivial⟩⟩⟩) F X2 hB hJ hw⟩
  | 3, _ =>
    refine ⟨_, Nat.le_of_ble_eq_true rfl, oct_x [a, b, if c = 0 then 0 else 1] ok_3_93 rfl (by decide) (by decide) rfl rfl (fun F => rfl) (fun F hB => iv_app rfl (iv_nx rfl hB) ⟨iv_az _, ⟨iv_az _, ⟨iv_tf _, trivial⟩⟩⟩) F X2 hB hJ hw⟩
  | n + 4, h => exact absurd h (by omega)
theorem m_211 (a : Int32) (b : Int32) (c : Int32) : omT Ls xs jm_M211 [.int (a), .int (b), .int (if c = 0 then 0 else 1)] (fun _ _ => True) (fun x => x) := ⟨_, Nat.le_of_ble_eq_true rfl, fun F X1 hB hJ hw => oct_mm [a, b, if c = 0 then 0 else 1] ok_4_211 rfl rfl rfl (fun F => rfl) (fun F hB => iv_app rfl (iv_nx rfl hB) ⟨iv_az _, ⟨iv_az _, ⟨iv_tf _, trivial⟩⟩⟩) F X1 hB hJ hw⟩
theorem x_94 (a : Int32) (b : Int32) (c : Int32) : oxT Ls xs jm_M94 [.int (a), .int (b), .int (c)] (fun _ _ => True) (fun x => x) := by
  intro s F X2 hs hB hJ hw
  match s, hs with
  | 0, _ =>
    refine ⟨_, Nat.le_of_ble_eq_true rfl, oct_x [a, b, c] ok_0_94 rfl (by decide) (by decide) rfl rfl (fun F => rfl) (fun F hB => iv_app rfl (iv_nx rfl hB) ⟨iv_az _, ⟨iv_az _, ⟨iv_az _, trivial⟩⟩⟩) F X2 hB hJ hw⟩
  | 1, _ =>
    refine ⟨_, Nat.le_of_ble_eq_true rfl, oct_x [a, b, c] ok_1_94 rfl (by decide) (by decide) rfl rfl (fun F => rfl) (fun F hB => iv_app rfl (iv_nx rfl hB) ⟨iv_az _, ⟨iv_az _, ⟨iv_az _, trivial⟩⟩⟩) F X2 hB hJ hw⟩
  | 2, _ =>
    refine ⟨_, Nat.le_of_ble_eq_true rfl, oct_x [a, b, c] ok_2_94 rfl (by decide) (by decide) rfl rfl (fun F => rfl) (fun F hB => iv_app rfl (iv_nx rfl hB) ⟨iv_az _, ⟨iv_az _, ⟨iv_az _, trivial⟩⟩⟩) F X2 hB hJ hw⟩
  | 3, _ =>
    refine ⟨_, Nat.le_of_ble_eq_true rfl, oct_x [a, b, c] ok_3_94 rfl (by decide) (by decide) rfl rfl (fun F => rfl) (fun F hB => iv_app rfl (iv_nx rfl hB) ⟨iv_az _, ⟨iv_az _, ⟨iv_az _, trivial⟩⟩⟩) F X2 hB hJ hw⟩
  | n + 4, h => exact absurd h (by omega)
theorem m_213 (a : Int32) (b : Int32) (c : Int32) : omT Ls xs jm_M213 [.int (a), .int (b), .int (c)] (fun _ _ => True) (fun x => x) := ⟨_, Nat.le_of_ble_eq_true rfl, fun F X1 hB hJ hw => oct_mm [a, b, c] ok_4_213 rfl rfl rfl (fun F => rfl) (fun F hB => iv_app rfl (iv_nx rfl hB) ⟨iv_az _, ⟨iv_az _, ⟨iv_az _, trivial⟩⟩⟩) F X1 hB hJ hw⟩
theorem x_95 (a : Int32) (b : Int32) (c : Int32) : oxT Ls xs jm_M95 [.int (a), .int (b), .int (c)] (fun _ _ => True) (fun x => x) := by
  intro s F X2 hs hB hJ hw
  match s, hs with
  | 0, _ =>
    refine ⟨_, Nat.le_of_ble_eq_true rfl, oct_x [a, b, c] ok_0_95 rfl (by decide) (by decide) rfl rfl (fun F => rfl) (fun F hB => iv_app rfl (iv_nx rfl hB) ⟨iv_az _, ⟨iv_az _, ⟨iv_az _, trivial⟩⟩⟩) F X2 hB hJ hw⟩
  | 1, _ =>
    refine ⟨_, Nat.le_of_ble_eq_true rfl, oct_x [a, b, c] ok_1_95 rfl (by decide) (by decide) rfl rfl (fun F => rfl) (fun F hB => iv_app rfl (iv_nx rfl hB) ⟨iv_az _, ⟨iv_az _, ⟨iv_az _, trivial⟩⟩⟩) F X2 hB hJ hw⟩
  | 2, _ =>
    refine ⟨_, Nat.le_of_ble_eq_true rfl, oct_x [a, b, c] ok_2_95 rfl (by decide) (by decide) rfl rfl (fun F => rfl) (fun F hB => iv_app rfl (iv_nx rfl hB) ⟨iv_az _, ⟨iv_az _, ⟨iv_az _, trivial⟩⟩⟩) F X2 hB hJ hw⟩
  | 3, _ =>
    refine ⟨_, Nat.le_of_ble_eq_true rfl, oct_x [a, b, c] ok_3_95 rfl (by decide) (by decide) rfl rfl (fun F => rfl) (fun F hB => iv_app rfl (iv_nx rfl hB) ⟨iv_az _, ⟨iv_az _, ⟨iv_az _, trivial⟩⟩⟩) F X2 hB hJ hw⟩
  | n + 4, h => exact absurd h (by omega)
theorem m_214 (a : Int32) (b : Int32) (c : Int32) : omT Ls xs jm_M214 [.int (a), .int (b), .int (c)] (fun _ _ => True) (fun x => x) := ⟨_, Nat.le_of_ble_eq_true rfl, fun F X1 hB hJ hw => oct_mm [a, b, c] ok_4_214 rfl rfl rfl (fun F => rfl) (fun F hB => iv_app rfl (iv_nx rfl hB) ⟨iv_az _, ⟨iv_az _, ⟨iv_az _, trivial⟩⟩⟩) F X1 hB hJ hw⟩
theorem x_96 (a : Int32) (b : Int32) : oxT Ls xs jm_M96 [.int (a), .int (b)] (fun _ _ => True) (fun x => x) := by
  intro s F X2 hs hB hJ hw
  match s, hs with
  | 0, _ =>
    refine ⟨_, Nat.le_of_ble_eq_true rfl, oct_x [a, b] ok_0_96 rfl (by decide) (by decide) rfl rfl (fun F => rfl) (fun F hB => iv_app rfl (iv_nx rfl hB) ⟨iv_az _, ⟨iv_az _, trivial⟩⟩) F X2 hB hJ hw⟩
  | 1, _ =>
    refine ⟨_, Nat.le_of_ble_eq_true rfl, oct_x [a, b] ok_1_96 rfl (by decide) (by decide) rfl rfl (fun F => rfl) (fun F hB => iv_app rfl (iv_nx rfl hB) ⟨iv_az _, ⟨iv_az _, trivial⟩⟩) F X2 hB hJ hw⟩
  | 2, _ =>
    refine ⟨_, Nat.le_of_ble_eq_true rfl, oct_x [a, b] ok_2_96 rfl (by decide) (by decide) rfl rfl (fun F => rfl) (fun F hB => iv_app rfl (iv_nx rfl hB) ⟨iv_az _, ⟨iv_az _, trivial⟩⟩) F X2 hB hJ hw⟩
  | 3, _ =>
    refine ⟨_, Nat.le_of_ble_eq_true rfl, oct_x [a, b] ok_3_96 rfl (by decide) (by decide) rfl rfl (fun F => rfl) (fun F hB => iv_app rfl (iv_nx rfl hB) ⟨iv_az _, ⟨iv_az _, trivial⟩⟩) F X2 hB hJ hw⟩
  | n + 4, h => exact absurd h (by omega)
theorem m_215 (a : Int32) (b : Int32) : omT Ls xs jm_M215 [.int (a), .int (b)] (fun _ _ => True) (fun x => x) := ⟨_, Nat.le_of_ble_eq_true rfl, fun F X1 hB hJ hw => oct_mm [a, b] ok_4_215 rfl rfl rfl (fun F => rfl) (fun F hB => iv_app rfl (iv_nx rfl hB) ⟨iv_az _, ⟨iv_az _, trivial⟩⟩) F X1 hB hJ hw⟩
theorem x_97 (a : Int32) (b : Int32) : oxT Ls xs jm_M97 [.int (a), .int (b)] (fun _ _ => True) (fun x => x) := by
  intro s F X2 hs hB hJ hw
  match s, hs with
  | 0, _ =>
    refine ⟨_, Nat.le_of_ble_eq_true rfl, oct_x [a, b] ok_0_97 rfl (by decide) (by decide) rfl rfl (fun F => rfl) (fun F hB => iv_app rfl (iv_nx rfl hB) ⟨iv_az _, ⟨iv_az _, trivial⟩⟩) F X2 hB hJ hw⟩
  | 1, _ =>
    refine ⟨_, Nat.le_of_ble_eq_true rfl, oct_x [a, b] ok_1_97 rfl (by decide) (by decide) rfl rfl (fun F => rfl) (fun F hB => iv_app rfl (iv_nx rfl hB) ⟨iv_az _, ⟨iv_az _, trivial⟩⟩) F X2 hB hJ hw⟩
  | 2, _ =>
    refine ⟨_, Nat.le_of_ble_eq_true rfl, oct_x [a, b] ok_2_97 rfl (by decide) (by decide) rfl rfl (fun F => rfl) (fun F hB => iv_app rfl (iv_nx rfl hB) ⟨iv_az _, ⟨iv_az _, trivial⟩⟩) F X2 hB hJ hw⟩
  | 3, _ =>
    refine ⟨_, Nat.le_of_ble_eq_true rfl, oct_x [a, b] ok_3_97 rfl (by decide) (by decide) rfl rfl (fun F => rfl) (fun F hB => iv_app rfl (iv_nx rfl hB) ⟨iv_az _, ⟨iv_az _, trivial⟩⟩) F X2 hB hJ hw⟩
  | n + 4, h => exact absurd h (by omega)
theorem m_216 (a : Int32) (b : Int32) : omT Ls xs jm_M216 [.int (a), .int (b)] (fun _ _ => True) (fun x => x) := ⟨_, Nat.le_of_ble_eq_true rfl, fun F X1 hB hJ hw => oct_mm [a, b] ok_4_216 rfl rfl rfl (fun F => rfl) (fun F hB => iv_app rfl (iv_nx rfl hB) ⟨iv_az _, ⟨iv_az _, trivial⟩⟩) F X1 hB hJ hw⟩
theorem x_98 (a : Int32) (b : Int32) : oxT Ls xs jm_M98 [.int (a), .int (b)] (fun _ _ => True) (fun x => x) := by
  intro s F X2 hs hB hJ hw
  match s, hs with
  | 0, _ =>
    refine ⟨_, Nat.le_of_ble_eq_true rfl, oct_x [a, b] ok_0_98 rfl (by decide) (by decide) rfl rfl (fun F => rfl) (fun F hB => iv_app rfl (iv_nx rfl hB) ⟨iv_az _, ⟨iv_az _, trivial⟩⟩) F X2 hB hJ hw⟩
  | 1, _ =>
    refine ⟨_, Nat.le_of_ble_eq_true rfl, oct_x [a, b] ok_1_98 rfl (by decide) (by decide) rfl rfl (fun F => rfl) (fun F hB => iv_app rfl (iv_nx rfl hB) ⟨iv_az _, ⟨iv_az _, trivial⟩⟩) F X2 hB hJ hw⟩
  | 2, _ =>
    refine ⟨_, Nat.le_of_ble_eq_true rfl, oct_x [a, b] ok_2_98 rfl (by decide) (by decide) rfl rfl (fun F => rfl) (fun F hB => iv_app rfl (iv_nx rfl hB) ⟨iv_az _, ⟨iv_az _, trivial⟩⟩) F X2 hB hJ hw⟩
  | 3, _ =>
    refine ⟨_, Nat.le_of_ble_eq_true rfl, oct_x [a, b] ok_3_98 rfl (by decide) (by decide) rfl rfl (fun F => rfl) (fun F hB => iv_app rfl (iv_nx rfl hB) ⟨iv_az _, ⟨iv_az _, trivial⟩⟩) F X2 hB hJ hw⟩
  | n + 4, h => exact absurd h (by omega)
theorem m_217 (a : Int32) (b : Int32) : omT Ls xs jm_M217 [.int (a), .int (b)] (fun _ _ => True) (fun x => x) := ⟨_, Nat.le_of_ble_eq_true rfl, fun F X1 hB hJ hw => oct_mm [a, b] ok_4_217 rfl rfl rfl (fun F => rfl) (fun F hB => iv_app rfl (iv_nx rfl hB) ⟨iv_az _, ⟨iv_az _, trivial⟩⟩) F X1 hB hJ hw⟩
theorem x_99 (a : Int32) : oxT Ls xs jm_M99 [.int (a)] (fun _ _ => True) (fun x => x) := by
  intro s F X2 hs hB hJ hw
  match s, hs with
  | 0, _ =>
    refine ⟨_, Nat.le_of_ble_eq_true rfl, oct_x [a] ok_0_99 rfl (by decide) (by decide) rfl rfl (fun F => rfl) (fun F hB => iv_app rfl (iv_nx rfl hB) ⟨iv_az _, trivial⟩) F X2 hB hJ hw⟩
  | 1, _ =>
    refine ⟨_, Nat.le_of_ble_eq_true rfl, oct_x [a] ok_1_99 rfl (by decide) (by decide) rfl rfl (fun F => rfl) (fun F hB => iv_app rfl (iv_nx rfl hB) ⟨iv_az _, trivial⟩) F X2 hB hJ hw⟩
  | 2, _ =>
    refine ⟨_, Nat.le_of_ble_eq_true rfl, oct_x [a] ok_2_99 rfl (by decide) (by decide) rfl rfl (fun F => rfl) (fun F hB => iv_app rfl (iv_nx rfl hB) ⟨iv_az _, trivial⟩) F X2 hB hJ hw⟩
  | 3, _ =>
    refine ⟨_, Nat.le_of_ble_eq_true rfl, oct_x [a] ok_3_99 rfl (by decide) (by decide) rfl rfl (fun F => rfl) (fun F hB => iv_app rfl (iv_nx rfl hB) ⟨iv_az _, trivial⟩) F X2 hB hJ hw⟩
  | n + 4, h => exact absurd h (by omega)
theorem m_219 (a : Int32) : omT Ls xs jm_M219 [.int (a)] (fun _ _ => True) (fun x => x) := ⟨_, Nat.le_of_ble_eq_true rfl, fun F X1 hB hJ hw => oct_mm [a] ok_4_219 rfl rfl rfl (fun F => rfl) (fun F hB => iv_app rfl (iv_nx rfl hB) ⟨iv_az _, trivial⟩) F X1 hB hJ hw⟩
theorem x_100 (a : Int32) : oxT Ls xs jm_M100 [.int (if a = 0 then 0 else 1)] (fun _ _ => True) (fun x => x) := by
  intro s F X2 hs hB hJ hw
  match s, hs with
  | 0, _ =>
    refine ⟨_, Nat.le_of_ble_eq_true rfl, oct_x [if a = 0 then 0 else 1] ok_0_100 rfl (by decide) (by decide) rfl rfl (fun F => rfl) (fun F hB => iv_app rfl (iv_nx rfl hB) ⟨iv_tf _, trivial⟩) F X2 hB hJ hw⟩
  | 1, _ =>
    refine ⟨_, Nat.le_of_ble_eq_true rfl, oct_x [if a = 0 then 0 else 1] ok_1_100 rfl (by decide) (by decide) rfl rfl (fun F => rfl) (fun F hB => iv_app rfl (iv_nx rfl hB) ⟨iv_tf _, trivial⟩) F X2 hB hJ hw⟩
  | 2, _ =>
    refine ⟨_, Nat.le_of_ble_eq_true rfl, oct_x [if a = 0 then 0 else 1] ok_2_100 rfl (by decide) (by decide) rfl rfl (fun F => rfl) (fun F hB => iv_app rfl (iv_nx rfl hB) ⟨iv_tf _, trivial⟩) F X2 hB hJ hw⟩
  | 3, _ =>
    refine ⟨_, Nat.le_of_ble_eq_true rfl, oct_x [if a = 0 then 0 else 1] ok_3_100 rfl (by decide) (by decide) rfl rfl (fun F => rfl) (fun F hB => iv_app rfl (iv_nx rfl hB) ⟨iv_tf _, trivial⟩) F X2 hB hJ hw⟩
  | n + 4, h => exact absurd h (by omega)
theorem m_220 (a : Int32) : omT Ls xs jm_M220 [.int (if a = 0 then 0 else 1)] (fun _ _ => True) (fun x => x) := ⟨_, Nat.le_of_ble_eq_true rfl, fun F X1 hB hJ hw => oct_mm [if a = 0 then 0 else 1] ok_4_220 rfl rfl rfl (fun F => rfl) (fun F hB => iv_app rfl (iv_nx rfl hB) ⟨iv_tf _, trivial⟩) F X1 hB hJ hw⟩
theorem x_101 (a : Int32) : oxT Ls xs jm_M101 [.int (a)] (fun _ _ => True) (fun x => x) := by
  intro s F X2 hs hB hJ hw
  match s, hs with
  | 0, _ =>
    refine ⟨_, Nat.le_of_ble_eq_true rfl, oct_x [a] ok_0_101 rfl (by decide) (by decide) rfl rfl (fun F => rfl) (fun F hB => iv_app rfl (iv_nx rfl hB) ⟨iv_az _, trivial⟩) F X2 hB hJ hw⟩
  | 1, _ =>
    refine ⟨_, Nat.le_of_ble_eq_true rfl, oct_x [a] ok_1_101 rfl (by decide) (by decide) rfl rfl (fun F => rfl) (fun F hB => iv_app rfl (iv_nx rfl hB) ⟨iv_az _, trivial⟩) F X2 hB hJ hw⟩
  | 2, _ =>
    refine ⟨_, Nat.le_of_ble_eq_true rfl, oct_x [a] ok_2_101 rfl (by decide) (by decide) rfl rfl (fun F => rfl) (fun F hB => iv_app rfl (iv_nx rfl hB) ⟨iv_az _, trivial⟩) F X2 hB hJ hw⟩
  | 3, _ =>
    refine ⟨_, Nat.le_of_ble_eq_true rfl, oct_x [a] ok_3_101 rfl (by decide) (by decide) rfl rfl (fun F => rfl) (fun F hB => iv_app rfl (iv_nx rfl hB) ⟨iv_az _, trivial⟩) F X2 hB hJ hw⟩
  | n + 4, h => exact absurd h (by omega)
theorem m_221 (a : Int32) : omT Ls xs jm_M221 [.int (a)] (fun _ _ => True) (fun x => x) := ⟨_, Nat.le_of_ble_eq_true rfl, fun F X1 hB hJ hw => oct_mm [a] ok_4_221 rfl rfl rfl (fun F => rfl) (fun F hB => iv_app rfl (iv_nx rfl hB) ⟨iv_az _, trivial⟩) F X1 hB hJ hw⟩
theorem x_102 (a : Int32) (b : Int32) (c : Int32) : oxT Ls xs jm_M102 [.int (a), .int (b), .int (c)] (fun _ _ => True) (fun x => x) := by
  intro s F X2 hs hB hJ hw
  match s, hs with
  | 0, _ =>
    refine ⟨_, Nat.le_of_ble_eq_true rfl, oct_x [a, b, c] ok_0_102 rfl (by decide) (by decide) rfl rfl (fun F => rfl) (fun F hB => iv_app rfl (iv_nx rfl hB) ⟨iv_az _, ⟨iv_az _, ⟨iv_az _, trivial⟩⟩⟩) F X2 hB hJ hw⟩
  | 1, _ =>
    refine ⟨_, Nat.le_of_ble_eq_true rfl, oct_x [a, b, c] ok_1_102 rfl (by decide) (by decide) rfl rfl (fun F => rfl) (fun F hB => iv_app rfl (iv_nx rfl hB) ⟨iv_az _, ⟨iv_az _, ⟨iv_az _, trivial⟩⟩⟩) F X2 hB hJ hw⟩
  | 2, _ =>
    refine ⟨_, Nat.le_of_ble_eq_true rfl, oct_x [a, b, c] ok_2_102 rfl (by decide) (by decide) rfl rfl (fun F => rfl) (fun F hB => iv_app rfl (iv_nx rfl hB) ⟨iv_az _, ⟨iv_az _, ⟨iv_az _, trivial⟩⟩⟩) F X2 hB hJ hw⟩
  | 3, _ =>
    refine ⟨_, Nat.le_of_ble_eq_true rfl, oct_x [a, b, c] ok_3_102 rfl (by decide) (by decide) rfl rfl (fun F => rfl) (fun F hB => iv_app rfl (iv_nx rfl hB) ⟨iv_az _, ⟨iv_az _, ⟨iv_az _, trivial⟩⟩⟩) F X2 hB hJ hw⟩
  | n + 4, h => exact absurd h (by omega)
theorem m_222 (a : Int32) (b : Int32) (c : Int32) : omT Ls xs jm_M222 [.int (a), .int (b), .int (c)] (fun _ _ => True) (fun x => x) := ⟨_, Nat.le_of_ble_eq_true rfl, fun F X1 hB hJ hw => oct_mm [a, b, c] ok_4_222 rfl rfl rfl (fun F => rfl) (fun F hB => iv_app rfl (iv_nx rfl hB) ⟨iv_az _, ⟨iv_az _, ⟨iv_az _, trivial⟩⟩⟩) F X1 hB hJ hw⟩
theorem x_103 (a : Int32) (b : Int32) : oxT Ls xs jm_M103 [.int (a), .int (b)] (fun _ _ => True) (fun x => x) := by
  intro s F X2 hs hB hJ hw
  match s, hs with
  | 0, _ =>
    refine ⟨_, Nat.le_of_ble_eq_true rfl, oct_x [a, b] ok_0_103 rfl (by decide) (by decide) rfl rfl (fun F => rfl) (fun F hB => iv_app rfl (iv_nx rfl hB) ⟨iv_az _, ⟨iv_az _, trivial⟩⟩) F X2 hB hJ hw⟩
  | 1, _ =>
    refine ⟨_, Nat.le_of_ble_eq_true rfl, oct_x [a, b] ok_1_103 rfl (by decide) (by decide) rfl rfl (fun F => rfl) (fun F hB => iv_app rfl (iv_nx rfl hB) ⟨iv_az _, ⟨iv_az _, trivial⟩⟩) F X2 hB hJ hw⟩
  | 2, _ =>
    refine ⟨_, Nat.le_of_ble_eq_true rfl, oct_x [a, b] ok_2_103 rfl (by decide) (by decide) rfl rfl (fun F => rfl) (fun F hB => iv_app rfl (iv_nx rfl hB) ⟨iv_az _, ⟨iv_az _, trivial⟩⟩) F X2 hB hJ hw⟩
  | 3, _ =>
    refine ⟨_, Nat.le_of_ble_eq_true rfl, oct_x [a, b] ok_3_103 rfl (by decide) (by decide) rfl rfl (fun F => rfl) (fun F hB => iv_app rfl (iv_nx rfl hB) ⟨iv_az _, ⟨iv_az _, trivial⟩⟩) F X2 hB hJ hw⟩
  | n + 4, h => exact absurd h (by omega)
theorem m_223 (a : Int32) (b : Int32) : omT Ls xs jm_M223 [.int (a), .int (b)] (fun _ _ => True) (fun x => x) := ⟨_, Nat.le_of_ble_eq_true rfl, fun F X1 hB hJ hw => oct_mm [a, b] ok_4_223 rfl rfl rfl (fun F => rfl) (fun F hB => iv_app rfl (iv_nx rfl hB) ⟨iv_az _, ⟨iv_az _, trivial⟩⟩) F X1 hB hJ hw⟩
theorem x_104 (a : Int32) (b : Int32) : oxT Ls xs jm_M104 [.int (a), .int (b)] (fun _ _ => True) (fun x => x) := by
  intro s F X2 hs hB hJ hw
  match s, hs with
  | 0, _ =>
    refine ⟨_, Nat.le_of_ble_eq_true rfl, oct_x [a, b] ok_0_104 rfl (by decide) (by decide) rfl rfl (fun F => rfl) (fun F hB => iv_app rfl (iv_nx rfl hB) ⟨iv_az _, ⟨iv_az _, trivial⟩⟩) F X2 hB hJ hw⟩
  | 1, _ =>
    refine ⟨_, Nat.le_of_ble_eq_true rfl, oct_x [a, b] ok_1_104 rfl (by decide) (by decide) rfl rfl (fun F => rfl) (fun F hB => iv_app rfl (iv_nx rfl hB) ⟨iv_az _, ⟨iv_az _, trivial⟩⟩) F X2 hB hJ hw⟩
  | 2, _ =>
    refine ⟨_, Nat.le_of_ble_eq_true rfl, oct_x [a, b] ok_2_104 rfl (by decide) (by decide) rfl rfl (fun F => rfl) (fun F hB => iv_app rfl (iv_nx rfl hB) ⟨iv_az _, ⟨iv_az _, trivial⟩⟩) F X2 hB hJ hw⟩
  | 3, _ =>
    refine ⟨_, Nat.le_of_ble_eq_true rfl, oct_x [a, b] ok_3_104 rfl (by decide) (by decide) rfl rfl (fun F => rfl) (fun F hB => iv_app rfl (iv_nx rfl hB) ⟨iv_az _, ⟨iv_az _, trivial⟩⟩) F X2 hB hJ hw⟩
  | n + 4, h => exact absurd h (by omega)
theorem m_224 (a : Int32) (b : Int32) : omT Ls xs jm_M224 [.int (a), .int (b)] (fun _ _ => True) (fun x => x) := ⟨_, Nat.le_of_ble_eq_true rfl, fun F X1 hB hJ hw => oct_mm [a, b] ok_4_224 rfl rfl rfl (fun F => rfl) (fun F hB => iv_app rfl (iv_nx rfl hB) ⟨iv_az _, ⟨iv_az _, trivial⟩⟩) F X1 hB hJ hw⟩
theorem x_105 (a : Int32) : oxT Ls xs jm_M105 [.int (a)] (fun _ _ => True) (fun x => x) := by
  intro s F X2 hs hB hJ hw
  match s, hs with
  | 0, _ =>
    refine ⟨_, Nat.le_of_ble_eq_true rfl, oct_x [a] ok_0_105 rfl (by decide) (by decide) rfl rfl (fun F => rfl) (fun F hB => iv_app rfl (iv_nx rfl hB) ⟨iv_az _, trivial⟩) F X2 hB hJ hw⟩
  | 1, _ =>
    refine ⟨_, Nat.le_of_ble_eq_true rfl, oct_x [a] ok_1_105 rfl (by decide) (by decide) rfl rfl (fun F => rfl) (fun F hB => iv_app rfl (iv_nx rfl hB) ⟨iv_az _, trivial⟩) F X2 hB hJ hw⟩
  | 2, _ =>
    refine ⟨_, Nat.le_of_ble_eq_true rfl, oct_x [a] ok_2_105 rfl (by decide) (by decide) rfl rfl (fun F => rfl) (fun F hB => iv_app rfl (iv_nx rfl hB) ⟨iv_az _, trivial⟩) F X2 hB hJ hw⟩
  | 3, _ =>
    refine ⟨_, Nat.le_of_ble_eq_true rfl, oct_x [a] ok_3_105 rfl (by decide) (by decide) rfl rfl (fun F => rfl) (fun F hB => iv_app rfl (iv_nx rfl hB) ⟨iv_az _, trivial⟩) F X2 hB hJ hw⟩
  | n + 4, h => exact absurd h (by omega)
theorem m_225 (a : Int32) : omT Ls xs jm_M225 [.int (a)] (fun _ _ => True) (fun x => x) := ⟨_, Nat.le_of_ble_eq_true rfl, fun F X1 hB hJ hw => oct_mm [a] ok_4_225 rfl rfl rfl (fun F => rfl) (fun F hB => iv_app rfl (iv_nx rfl hB) ⟨iv_az _, trivial⟩) F X1 hB hJ hw⟩
theorem x_106  : oxT Ls xs jm_M106 [] (fun _ _ => True) (fun x => x) := by
  intro s F X2 hs hB hJ hw
  match s, hs with
  | 0, _ =>
    refine ⟨_, Nat.le_of_ble_eq_true rfl, oct_x [] ok_0_106 rfl (by decide) (by decide) rfl rfl (fun F => rfl) (fun F hB => iv_nx rfl hB) F X2 hB hJ hw⟩
  | 1, _ =>
    refine ⟨_, Nat.le_of_ble_eq_true rfl, oct_x [] ok_1_106 rfl (by decide) (by decide) rfl rfl (fun F => rfl) (fun F hB => iv_nx rfl hB) F X2 hB hJ hw⟩
  | 2, _ =>
    refine ⟨_, Nat.le_of_ble_eq_true rfl, oct_x [] ok_2_106 rfl (by decide) (by decide) rfl rfl (fun F => rfl) (fun F hB => iv_nx rfl hB) F X2 hB hJ hw⟩
  | 3, _ =>
    refine ⟨_, Nat.le_of_ble_eq_true rfl, oct_x [] ok_3_106 rfl (by decide) (by decide) rfl rfl (fun F => rfl) (fun F hB => iv_nx rfl hB) F X2 hB hJ hw⟩
  | n + 4, h => exact absurd h (by omega)
theorem m_226  : omT Ls xs jm_M226 [] (fun _ _ => True) (fun x => x) := ⟨_, Nat.le_of_ble_eq_true rfl, fun F X1 hB hJ hw => oct_mm [] ok_4_226 rfl rfl rfl (fun F => rfl) (fun F hB => iv_nx rfl hB) F X1 hB hJ hw⟩
theorem x_107 (a : Int32) (b : Int32) (c : Int32) (d : Int32) : oxT Ls xs jm_M107 [.int (a), .int (b), .int (c), .int (d)] (fun _ _ => True) (fun x => x) := by
  intro s F X2 hs hB hJ hw
  match s, hs with
  | 0, _ =>
    refine ⟨_, Nat.le_of_ble_eq_true rfl, oct_x [a, b, c, d] ok_0_107 rfl (by decide) (by decide) rfl rfl (fun F => rfl) (fun F hB => iv_app rfl (iv_nx rfl hB) ⟨iv_az _, ⟨iv_az _, ⟨iv_az _, ⟨iv_az _, trivial⟩⟩⟩⟩) F X2 hB hJ hw⟩
  | 1, _ =>
    refine ⟨_, Nat.le_of_ble_eq_true rfl, oct_x [a, b, c, d] ok_1_107 rfl (by decide) (by decide) rfl rfl (fun F => rfl) (fun F hB => iv_app rfl (iv_nx rfl hB) ⟨iv_az _, ⟨iv_az _, ⟨iv_az _, ⟨iv_az _, trivial⟩⟩⟩⟩) F X2 hB hJ hw⟩
  | 2, _ =>
    refine ⟨_, Nat.le_of_ble_eq_true rfl, oct_x [a, b, c, d] ok_2_107 rfl (by decide) (by decide) rfl rfl (fun F => rfl) (fun F hB => iv_app rfl (iv_nx rfl hB) ⟨iv_az _, ⟨iv_az _, ⟨iv_az _, ⟨iv_az _, trivial⟩⟩⟩⟩) F X2 hB hJ hw⟩
  | 3, _ =>
    refine ⟨_, Nat.le_of_ble_eq_true rfl, oct_x [a, b, c, d] ok_3_107 rfl (by decide) (by decide) rfl rfl (fun F => rfl) (fun F hB => iv_app rfl (iv_nx rfl hB) ⟨iv_az _, ⟨iv_az _, ⟨iv_az _, ⟨iv_az _, trivial⟩⟩⟩⟩) F X2 hB hJ hw⟩
  | n + 4, h => exact absurd h (by omega)
theorem m_227 (a : Int32) (b : Int32) (c : Int32) (d : Int32) : omT Ls xs jm_M227 [.int (a), .int (b), .int (c), .int (d)] (fun _ _ => True) (fun x => x) := ⟨_, Nat.le_of_ble_eq_true rfl, fun F X1 hB hJ hw => oct_mm [a, b, c, d] ok_4_227 rfl rfl rfl (fun F => rfl) (fun F hB => iv_app rfl (iv_nx rfl hB) ⟨iv_az _, ⟨iv_az _, ⟨iv_az _, ⟨iv_az _, trivial⟩⟩⟩⟩) F X1 hB hJ hw⟩
theorem x_108 (a : Int32) (b : Int32) : oxT Ls xs jm_M108 [.int (a), .int (b)] (fun x r => r.toInt = a_tell a b x) (s_tell a b) := by
  intro s F X2 hs hB hJ hw
  match s, hs with
  | 0, _ =>
    refine ⟨2, by decide, ?_⟩
    rw [← dh_x F [] X2 (by decide : 0 < 4)]
    refine jm_T_mono (ox0_tell [] X2 F hB hJ hw a b) ?_
    rintro v G ⟨r, t, F', rfl, hV, ht, rfl, h1, h2, h3, h4⟩
    exact ⟨⟨r, rfl, hV⟩, t, F', ht, dh_x F' [] X2 ht, h1, h2, h3, h4⟩
  | 1, _ =>
    refine ⟨2, by decide, ?_⟩
    rw [← dh_x F [] X2 (by decide : 1 < 4)]
    refine jm_T_mono (ox1_tell [] X2 F hB hJ hw a b) ?_
    rintro v G ⟨r, t, F', rfl, hV, ht, rfl, h1, h2, h3, h4⟩
    exact ⟨⟨r, rfl, hV⟩, t, F', ht, dh_x F' [] X2 ht, h1, h2, h3, h4⟩
  | 2, _ =>
    refine ⟨2, by decide, ?_⟩
    rw [← dh_x F [] X2 (by decide : 2 < 4)]
    refine jm_T_mono (ox2_tell [] X2 F hB hJ hw a b) ?_
    rintro v G ⟨r, t, F', rfl, hV, ht, rfl, h1, h2, h3, h4⟩
    exact ⟨⟨r, rfl, hV⟩, t, F', ht, dh_x F' [] X2 ht, h1, h2, h3, h4⟩
  | 3, _ =>
    refine ⟨2, by decide, ?_⟩
    rw [← dh_x F [] X2 (by decide : 3 < 4)]
    refine jm_T_mono (ox3_tell [] X2 F hB hJ hw a b) ?_
    rintro v G ⟨r, t, F', rfl, hV, ht, rfl, h1, h2, h3, h4⟩
    exact ⟨⟨r, rfl, hV⟩, t, F', ht, dh_x F' [] X2 ht, h1, h2, h3, h4⟩
  | n + 4, h => exact absurd h (by omega)
theorem m_228 (a : Int32) (b : Int32) : omT Ls xs jm_M228 [.int (a), .int (b)] (fun x r => r.toInt = a_tell a b x) (s_tell a b) := om_tell a b
theorem x_109  : oxT Ls xs jm_M109 [] (fun x r => r.toInt = x.2.2.2.1) (s_forget) := by
  intro s F X2 hs hB hJ hw
  match s, hs with
  | 0, _ =>
    refine ⟨1, by decide, ?_⟩
    rw [← dh_x F [] X2 (by decide : 0 < 4)]
    refine jm_T_mono (ox0_forget [] X2 F hB hJ hw ) ?_
    rintro v G ⟨r, t, F', rfl, hV, ht, rfl, h1, h2, h3, h4⟩
    exact ⟨⟨r, rfl, hV⟩, t, F', ht, dh_x F' [] X2 ht, h1, h2, h3, h4⟩
  | 1, _ =>
    refine ⟨1, by decide, ?_⟩
    rw [← dh_x F [] X2 (by decide : 1 < 4)]
    refine jm_T_mono (ox1_forget [] X2 F hB hJ hw ) ?_
    rintro v G ⟨r, t, F', rfl, hV, ht, rfl, h1, h2, h3, h4⟩
    exact ⟨⟨r, rfl, hV⟩, t, F', ht, dh_x F' [] X2 ht, h1, h2, h3, h4⟩
  | 2, _ =>
    refine ⟨1, by decide, ?_⟩
    rw [← dh_x F [] X2 (by decide : 2 < 4)]
    refine jm_T_mono (ox2_forget [] X2 F hB hJ hw ) ?_
    rintro v G ⟨r, t, F', rfl, hV, ht, rfl, h1, h2, h3, h4⟩
    exact ⟨⟨r, rfl, hV⟩, t, F', ht, dh_x F' [] X2 ht, h1, h2, h3, h4⟩
  | 3, _ =>
    refine ⟨1, by decide, ?_⟩
    rw [← dh_x F [] X2 (by decide : 3 < 4)]
    refine jm_T_mono (ox3_forget [] X2 F hB hJ hw ) ?_
    rintro v G ⟨r, t, F', rfl, hV, ht, rfl, h1, h2, h3, h4⟩
    exact ⟨⟨r, rfl, hV⟩, t, F', ht, dh_x F' [] X2 ht, h1, h2, h3, h4⟩
  | n + 4, h => exact absurd h (by omega)
theorem m_229  : omT Ls xs jm_M229 [] (fun x r => r.toInt = x.2.2.2.1) (s_forget) := om_forget 
theorem x_110 (a : Int32) : oxT Ls xs jm_M110 [.int (a)] (fun _ _ => True) (fun x => x) := by
  intro s F X2 hs hB hJ hw
  match s, hs with
  | 0, _ =>
    refine ⟨_, Nat.le_of_ble_eq_true rfl, oct_x [a] ok_0_110 rfl (by decide) (by decide) rfl rfl (fun F => rfl) (fun F hB => iv_app rfl (iv_nx rfl hB) ⟨iv_az _, trivial⟩) F X2 hB hJ hw⟩
  | 1, _ =>
    refine ⟨_, Nat.le_of_ble_eq_true rfl, oct_x [a] ok_1_110 rfl (by decide) (by decide) rfl rfl (fun F => rfl) (fun F hB => iv_app rfl (iv_nx rfl hB) ⟨iv_az _, trivial⟩) F X2 hB hJ hw⟩
  | 2, _ =>
    refine ⟨_, Nat.le_of_ble_eq_true rfl, oct_x [a] ok_2_110 rfl (by decide) (by decide) rfl rfl (fun F => rfl) (fun F hB => iv_app rfl (iv_nx rfl hB) ⟨iv_az _, trivial⟩) F X2 hB hJ hw⟩
  | 3, _ =>
    refine ⟨_, Nat.le_of_ble_eq_true rfl, oct_x [a] ok_3_110 rfl (by decide) (by decide) rfl rfl (fun F => rfl) (fun F hB => iv_app rfl (iv_nx rfl hB) ⟨iv_az _, trivial⟩) F X2 hB hJ hw⟩
  | n + 4, h => exact absurd h (by omega)
theorem m_233 (a : Int32) : omT Ls xs jm_M233 [.int (a)] (fun _ _ => True) (fun x => x) := ⟨_, Nat.le_of_ble_eq_true rfl, fun F X1 hB hJ hw => oct_mm [a] ok_4_233 rfl rfl rfl (fun F => rfl) (fun F hB => iv_app rfl (iv_nx rfl hB) ⟨iv_az _, trivial⟩) F X1 hB hJ hw⟩
theorem x_111 (a : Int32) (b : Int32) : oxT Ls xs jm_M111 [.int (a), .int (b)] (fun _ _ => True) (fun x => x) := by
  intro s F X2 hs hB hJ hw
  match s, hs with
  | 0, _ =>
    refine ⟨_, Nat.le_of_ble_eq_true rfl, oct_x [a, b] ok_0_111 rfl (by decide) (by decide) rfl rfl (fun F => rfl) (fun F hB => iv_app rfl (iv_nx rfl hB) ⟨iv_az _, ⟨iv_az _, trivial⟩⟩) F X2 hB hJ hw⟩
  | 1, _ =>
    refine ⟨_, Nat.le_of_ble_eq_true rfl, oct_x [a, b] ok_1_111 rfl (by decide) (by decide) rfl rfl (fun F => rfl) (fun F hB => iv_app rfl (iv_nx rfl hB) ⟨iv_az _, ⟨iv_az _, trivial⟩⟩) F X2 hB hJ hw⟩
  | 2, _ =>
    refine ⟨_, Nat.le_of_ble_eq_true rfl, oct_x [a, b] ok_2_111 rfl (by decide) (by decide) rfl rfl (fun F => rfl) (fun F hB => iv_app rfl (iv_nx rfl hB) ⟨iv_az _, ⟨iv_az _, trivial⟩⟩) F X2 hB hJ hw⟩
  | 3, _ =>
    refine ⟨_, Nat.le_of_ble_eq_true rfl, oct_x [a, b] ok_3_111 rfl (by decide) (by decide) rfl rfl (fun F => rfl) (fun F hB => iv_app rfl (iv_nx rfl hB) ⟨iv_az _, ⟨iv_az _, trivial⟩⟩) F X2 hB hJ hw⟩
  | n + 4, h => exact absurd h (by omega)
theorem m_234 (a : Int32) (b : Int32) : omT Ls xs jm_M234 [.int (a), .int (b)] (fun _ _ => True) (fun x => x) := ⟨_, Nat.le_of_ble_eq_true rfl, fun F X1 hB hJ hw => oct_mm [a, b] ok_4_234 rfl rfl rfl (fun F => rfl) (fun F hB => iv_app rfl (iv_nx rfl hB) ⟨iv_az _, ⟨iv_az _, trivial⟩⟩) F X1 hB hJ hw⟩
theorem x_112 (a : Int32) : oxT Ls xs jm_M112 [.int (a)] (fun _ _ => True) (fun x => x) := by
  intro s F X2 hs hB hJ hw
  match s, hs with
  | 0, _ =>
    refine ⟨_, Nat.le_of_ble_eq_true rfl, oct_x [a] ok_0_112 rfl (by decide) (by decide) rfl rfl (fun F => rfl) (fun F hB => iv_app rfl (iv_nx rfl hB) ⟨iv_az _, trivial⟩) F X2 hB hJ hw⟩
  | 1, _ =>
    refine ⟨_, Nat.le_of_ble_eq_true rfl, oct_x [a] ok_1_112 rfl (by decide) (by decide) rfl rfl (fun F => rfl) (fun F hB => iv_app rfl (iv_nx rfl hB) ⟨iv_az _, trivial⟩) F X2 hB hJ hw⟩
  | 2, _ =>
    refine ⟨_, Nat.le_of_ble_eq_true rfl, oct_x [a] ok_2_112 rfl (by decide) (by decide) rfl rfl (fun F => rfl) (fun F hB => iv_app rfl (iv_nx rfl hB) ⟨iv_az _, trivial⟩) F X2 hB hJ hw⟩
  | 3, _ =>
    refine ⟨_, Nat.le_of_ble_eq_true rfl, oct_x [a] ok_3_112 rfl (by decide) (by decide) rfl rfl (fun F => rfl) (fun F hB => iv_app rfl (iv_nx rfl hB) ⟨iv_az _, trivial⟩) F X2 hB hJ hw⟩
  | n + 4, h => exact absurd h (by omega)
theorem m_235 (a : Int32) : omT Ls xs jm_M235 [.int (a)] (fun _ _ => True) (fun x => x) := ⟨_, Nat.le_of_ble_eq_true rfl, fun F X1 hB hJ hw => oct_mm [a] ok_4_235 rfl rfl rfl (fun F => rfl) (fun F hB => iv_app rfl (iv_nx rfl hB) ⟨iv_az _, trivial⟩) F X1 hB hJ hw⟩
theorem x_113 (a : Int32) : oxT Ls xs jm_M113 [.int (a)] (fun x r => r.toInt = a_hold a x) (s_hold a) := by
  intro s F X2 hs hB hJ hw
  match s, hs with
  | 0, _ =>
    refine ⟨3, by decide, ?_⟩
    rw [← dh_x F [] X2 (by decide : 0 < 4)]
    refine jm_T_mono (ox0_hold [] X2 F hB hJ hw a) ?_
    rintro v G ⟨r, t, F', rfl, hV, ht, rfl, h1, h2, h3, h4⟩
    exact ⟨⟨r, rfl, hV⟩, t, F', ht, dh_x F' [] X2 ht, h1, h2, h3, h4⟩
  | 1, _ =>
    refine ⟨3, by decide, ?_⟩
    rw [← dh_x F [] X2 (by decide : 1 < 4)]
    refine jm_T_mono (ox1_hold [] X2 F hB hJ hw a) ?_
    rintro v G ⟨r, t, F', rfl, hV, ht, rfl, h1, h2, h3, h4⟩
    exact ⟨⟨r, rfl, hV⟩, t, F', ht, dh_x F' [] X2 ht, h1, h2, h3, h4⟩
  | 2, _ =>
    refine ⟨3, by decide, ?_⟩
    rw [← dh_x F [] X2 (by decide : 2 < 4)]
    refine jm_T_mono (ox2_hold [] X2 F hB hJ hw a) ?_
    rintro v G ⟨r, t, F', rfl, hV, ht, rfl, h1, h2, h3, h4⟩
    exact ⟨⟨r, rfl, hV⟩, t, F', ht, dh_x F' [] X2 ht, h1, h2, h3, h4⟩
  | 3, _ =>
    refine ⟨3, by decide, ?_⟩
    rw [← dh_x F [] X2 (by decide : 3 < 4)]
    refine jm_T_mono (ox3_hold [] X2 F hB hJ hw a) ?_
    rintro v G ⟨r, t, F', rfl, hV, ht, rfl, h1, h2, h3, h4⟩
    exact ⟨⟨r, rfl, hV⟩, t, F', ht, dh_x F' [] X2 ht, h1, h2, h3, h4⟩
  | n + 4, h => exact absurd h (by omega)
theorem m_236 (a : Int32) : omT Ls xs jm_M236 [.int (a)] (fun x r => r.toInt = a_hold a x) (s_hold a) := om_hold a
theorem x_114 (a : Int32) : oxT Ls xs jm_M114 [.int (a)] (fun x r => r.toInt = a_rest a x) (fun x => x) := by
  intro s F X2 hs hB hJ hw
  match s, hs with
  | 0, _ =>
    refine ⟨3, by decide, ?_⟩
    rw [← dh_x F [] X2 (by decide : 0 < 4)]
    refine jm_T_mono (ox0_restore [] X2 F hB hJ hw a) ?_
    rintro v G ⟨r, t, F', rfl, hV, ht, rfl, h1, h2, h3, h4⟩
    exact ⟨⟨r, rfl, hV⟩, t, F', ht, dh_x F' [] X2 ht, h1, h2, h3, h4⟩
  | 1, _ =>
    refine ⟨3, by decide, ?_⟩
    rw [← dh_x F [] X2 (by decide : 1 < 4)]
    refine jm_T_mono (ox1_restore [] X2 F hB hJ hw a) ?_
    rintro v G ⟨r, t, F', rfl, hV, ht, rfl, h1, h2, h3, h4⟩
    exact ⟨⟨r, rfl, hV⟩, t, F', ht, dh_x F' [] X2 ht, h1, h2, h3, h4⟩
  | 2, _ =>
    refine ⟨3, by decide, ?_⟩
    rw [← dh_x F [] X2 (by decide : 2 < 4)]
    refine jm_T_mono (ox2_restore [] X2 F hB hJ hw a) ?_
    rintro v G ⟨r, t, F', rfl, hV, ht, rfl, h1, h2, h3, h4⟩
    exact ⟨⟨r, rfl, hV⟩, t, F', ht, dh_x F' [] X2 ht, h1, h2, h3, h4⟩
  | 3, _ =>
    refine ⟨3, by decide, ?_⟩
    rw [← dh_x F [] X2 (by decide : 3 < 4)]
    refine jm_T_mono (ox3_restore [] X2 F hB hJ hw a) ?_
    rintro v G ⟨r, t, F', rfl, hV, ht, rfl, h1, h2, h3, h4⟩
    exact ⟨⟨r, rfl, hV⟩, t, F', ht, dh_x F' [] X2 ht, h1, h2, h3, h4⟩
  | n + 4, h => exact absurd h (by omega)
theorem m_237 (a : Int32) : omT Ls xs jm_M237 [.int (a)] (fun x r => r.toInt = a_rest a x) (fun x => x) := om_restore a
theorem x_115 (a : Int32) : oxT Ls xs jm_M115 [.int (a)] (fun _ _ => True) (fun x => x) := by
  intro s F X2 hs hB hJ hw
  match s, hs with
  | 0, _ =>
    refine ⟨_, Nat.le_of_ble_eq_true rfl, oct_x [a] ok_0_115 rfl (by decide) (by decide) rfl rfl (fun F => rfl) (fun F hB => iv_app rfl (iv_nx rfl hB) ⟨iv_az _, trivial⟩) F X2 hB hJ hw⟩
  | 1, _ =>
    refine ⟨_, Nat.le_of_ble_eq_true rfl, oct_x [a] ok_1_115 rfl (by decide) (by decide) rfl rfl (fun F => rfl) (fun F hB => iv_app rfl (iv_nx rfl hB) ⟨iv_az _, trivial⟩) F X2 hB hJ hw⟩
  | 2, _ =>
    refine ⟨_, Nat.le_of_ble_eq_true rfl, oct_x [a] ok_2_115 rfl (by decide) (by decide) rfl rfl (fun F => rfl) (fun F hB => iv_app rfl (iv_nx rfl hB) ⟨iv_az _, trivial⟩) F X2 hB hJ hw⟩
  | 3, _ =>
    refine ⟨_, Nat.le_of_ble_eq_true rfl, oct_x [a] ok_3_115 rfl (by decide) (by decide) rfl rfl (fun F => rfl) (fun F hB => iv_app rfl (iv_nx rfl hB) ⟨iv_az _, trivial⟩) F X2 hB hJ hw⟩
  | n + 4, h => exact absurd h (by omega)
theorem m_238 (a : Int32) : omT Ls xs jm_M238 [.int (a)] (fun _ _ => True) (fun x => x) := ⟨_, Nat.le_of_ble_eq_true rfl, fun F X1 hB hJ hw => oct_mm [a] ok_4_238 rfl rfl rfl (fun F => rfl) (fun F hB => iv_app rfl (iv_nx rfl hB) ⟨iv_az _, trivial⟩) F X1 hB hJ hw⟩
end MM
