/-! ===== bytes ===== -/
theorem b8 (x : Int32) : (x.toInt8.toInt32.toInt8.toInt32).toInt % 256 = x.toInt % 256 := by
  rw [Int8.toInt_toInt32, Int32.toInt_toInt8, Int8.toInt_toInt32, Int32.toInt_toInt8]
  simp only [Int.bmod_def]
  omega
theorem b8i (x : Int32) (h : -128 ≤ x.toInt ∧ x.toInt ≤ 127) : x.toInt8.toInt32 = x := by
  apply Int32.toInt_inj.mp
  rw [Int8.toInt_toInt32, Int32.toInt_toInt8]
  simp only [Int.bmod_def]
  omega
theorem u32n (x : Int32) : (x.toUInt32.toNat : Int) = x.toInt % 4294967296 := by
  have h : x.toUInt32.toNat = x.toBitVec.toNat := rfl
  have h3 : x.toInt = x.toBitVec.toInt := rfl
  rw [h, h3, BitVec.toInt_eq_toNat_cond]
  have := x.toBitVec.isLt
  split <;> omega
theorem u32i (u : UInt32) : u.toInt32.toInt % 256 = (u.toNat : Int) % 256 := by
  have h3 : u.toInt32.toInt = u.toBitVec.toInt := rfl
  have h4 : u.toNat = u.toBitVec.toNat := rfl
  rw [h3, h4, BitVec.toInt_eq_toNat_cond]
  have := u.toBitVec.isLt
  split <;> omega
theorem us24 (x : Int32) : ((x.toUInt32 >>> ((24 : Int32).toUInt32 &&& Int32.toUInt32 31)).toInt32).toInt % 256 = x.toInt / 16777216 % 256 := by
  have e : ((24 : Int32).toUInt32 &&& Int32.toUInt32 31) = 24 := by decide
  rw [e, u32i]
  have h : (x.toUInt32 >>> 24).toNat = x.toUInt32.toNat / 16777216 := by
    rw [UInt32.toNat_shiftRight]
    exact Nat.shiftRight_eq_div_pow _ 24
  have h2 := u32n x
  rw [h]
  omega
theorem us16 (x : Int32) : ((x.toUInt32 >>> ((16 : Int32).toUInt32 &&& Int32.toUInt32 31)).toInt32).toInt % 256 = x.toInt / 65536 % 256 := by
  have e : ((16 : Int32).toUInt32 &&& Int32.toUInt32 31) = 16 := by decide
  rw [e, u32i]
  have h : (x.toUInt32 >>> 16).toNat = x.toUInt32.toNat / 65536 := by
    rw [UInt32.toNat_shiftRight]
    exact Nat.shiftRight_eq_div_pow _ 16
  have h2 := u32n x
  rw [h]
  omega
theorem us8 (x : Int32) : ((x.toUInt32 >>> ((8 : Int32).toUInt32 &&& Int32.toUInt32 31)).toInt32).toInt % 256 = x.toInt / 256 % 256 := by
  have e : ((8 : Int32).toUInt32 &&& Int32.toUInt32 31) = 8 := by decide
  rw [e, u32i]
  have h : (x.toUInt32 >>> 8).toNat = x.toUInt32.toNat / 256 := by
    rw [UInt32.toNat_shiftRight]
    exact Nat.shiftRight_eq_div_pow _ 8
  have h2 := u32n x
  rw [h]
  omega
theorem us0 (x : Int32) : ((x.toUInt32 >>> ((0 : Int32).toUInt32 &&& Int32.toUInt32 31)).toInt32).toInt % 256 = x.toInt % 256 := by
  have e : ((0 : Int32).toUInt32 &&& Int32.toUInt32 31) = 0 := by decide
  rw [e, u32i]
  have h : (x.toUInt32 >>> 0).toNat = x.toUInt32.toNat := by
    rw [UInt32.toNat_shiftRight]
    exact Nat.shiftRight_zero
  have h2 := u32n x
  rw [h]
  omega
theorem srn (x k : Int32) (n : Nat) (hk : (k &&& 31).toBitVec.smod 32 = BitVec.ofNat 32 n) (hn : n < 32) : (x >>> (k &&& 31)).toInt = x.toInt / 2 ^ n := by
  have h : (x >>> (k &&& 31)).toInt = (BitVec.sshiftRight' x.toBitVec ((k &&& 31).toBitVec.smod 32)).toInt := rfl
  rw [h, hk, BitVec.sshiftRight', BitVec.toInt_sshiftRight, BitVec.toNat_ofNat, Int.shiftRight_eq_div_pow]
  have e : n % 2 ^ 32 = n := Nat.mod_eq_of_lt (by omega)
  rw [e]
  rfl
theorem sr24 (x : Int32) : (x >>> ((24 : Int32) &&& 31)).toInt % 256 = x.toInt / 16777216 % 256 := by rw [srn x 24 24 (by decide) (by decide)]; rfl
theorem sr16 (x : Int32) : (x >>> ((16 : Int32) &&& 31)).toInt % 256 = x.toInt / 65536 % 256 := by rw [srn x 16 16 (by decide) (by decide)]; rfl
theorem sr8 (x : Int32) : (x >>> ((8 : Int32) &&& 31)).toInt % 256 = x.toInt / 256 % 256 := by rw [srn x 8 8 (by decide) (by decide)]; rfl
theorem sr0 (x : Int32) : (x >>> ((0 : Int32) &&& 31)).toInt % 256 = x.toInt % 256 := by rw [srn x 0 0 (by decide) (by decide)]; simp
/-! ===== what is seen of the two between calls ===== -/
def wls : List Int64 := [3558512, 1494603, 459652, 263382265, 3217420, 12532058, 1001512747, 3499582, 125042, 5948362, 377761, 249, 399641, 107681, 361292, 164222, 168984, 1310653, 16308991, 276908612, 6465306496, 8800, 240023]
noncomputable def cP (b : Nat → Int) (n j : Nat) : Int := (uP b n j : Nat)
noncomputable def cK (b : Nat → Int) (n : Nat) (w : Nat → Int64) (j : Nat) : Int := uK b n w (uP b n j)
noncomputable def cV (b : Nat → Int) (n j : Nat) : Int := uF gd b (uP b n j) (uR uD b n (uP b n j) - uP b n j) 0
noncomputable def cN (b : Nat → Int) (n j : Nat) : Int64 := uF gl b (uP b n j) (uR uL b n (uP b n j) - uP b n j) 0
/-- how a text is read: the answer, the place of the fault -/
noncomputable def rdA (b : Nat → Int) (n : Nat) : Int × Int := sEnd (cP b n) (sRun (cK b n (fun k => wls.getD k 0)) (cV b n) (cN b n) 401 (0, 0, 0, [], (0, 0)))
theorem rd_same {b : Nat → Int} {n : Nat} {w : Nat → Int64} {K P V : Nat → Int} {N : Nat → Int64} {L : Nat} (hw : w = fun k => wls.getD k 0) (h : ∀ j, j ≤ L → tk b n w K P V N j) (hL : K L = 0 ∨ K L = 3 ∨ L = 400) : sEnd P (sRun K V N 401 (0, 0, 0, [], (0, 0))) = rdA b n := by
  subst hw
  exact cg_End (L := L) ⟨fun j hj => (h j hj).2.1, hL, fun j hj z => (h j hj).2.2.1 z, fun j hj z => (h j hj).2.2.2 z⟩ (fun j hj => (h j hj).1)
/-- four bytes more -/
def apB (b : Nat → Int) (t : Nat) (a : Int32) (i : Nat) : Int := if i < t then b i else if i = t then a.toInt / 16777216 % 256 else if i = t + 1 then a.toInt / 65536 % 256 else if i = t + 2 then a.toInt / 256 % 256 else if i = t + 3 then a.toInt % 256 else 0
theorem ap_ub {l : List Int32} {n0 n1 n2 n3 t t' : Nat} {c0 c1 c2 c3 a : Int32} (h0 : n0 = t) (h1 : n1 = t + 1) (h2 : n2 = t + 2) (h3 : n3 = t + 3) (ht : t' = t + 4) (e0 : c0.toInt % 256 = a.toInt / 16777216 % 256) (e1 : c1.toInt % 256 = a.toInt / 65536 % 256) (e2 : c2.toInt % 256 = a.toInt / 256 % 256) (e3 : c3.toInt % 256 = a.toInt % 256) : ub (jm_upd (jm_upd (jm_upd (jm_upd l n0 c0) n1 c1) n2 c2) n3 c3) t' = apB (ub l t) t a := by
  subst h0; subst h1; subst h2; subst h3; subst ht
  funext i
  unfold ub apB
  rw [jm_upd_at, jm_upd_at, jm_upd_at, jm_upd_at]
  by_cases q : i < n0
  · rw [if_pos (by omega), if_neg (by omega), if_neg (by omega), if_neg (by omega), if_neg (by omega), if_pos q]
    exact (if_pos q).symm
  · by_cases q0 : i = n0
    · rw [if_pos (by omega), if_neg (by omega), if_neg (by omega), if_neg (by omega), if_pos q0, if_neg q, if_pos q0]; exact e0
    · by_cases q1 : i = n0 + 1
      · rw [if_pos (by omega), if_neg (by omega), if_neg (by omega), if_pos q1, if_neg q, if_neg q0, if_pos q1]; exact e1
      · by_cases q2 : i = n0 + 2
        · rw [if_pos (by omega), if_neg (by omega), if_pos q2, if_neg q, if_neg q0, if_neg q1, if_pos q2]; exact e2
        · by_cases q3 : i = n0 + 3
          · rw [if_pos (by omega), if_pos q3, if_neg q, if_neg q0, if_neg q1, if_neg q2, if_pos q3]; exact e3
          · rw [if_neg (by omega), if_neg q, if_neg q0, if_neg q1, if_neg q2, if_neg q3]
theorem ub_cut {l : List Int32} {n n' : Nat} (h : n' ≤ n) : ub l n' = fun i => if i < n' then ub l n i else 0 := by
  funext i
  unfold ub
  by_cases q : i < n'
  · rw [if_pos q, if_pos q, if_pos (by omega)]
  · rw [if_neg q, if_neg q]
/-- taped, the bytes, the place of the fault, how many are told, what is held -/
abbrev sg : Type := Int × (Nat → Int) × Int × Int × (Nat → Int)
noncomputable def hl3 (l : List Int32) (i : Nat) : Int := if i < 3 then (l.getD i 0).toInt else 0
noncomputable def ox (F : Nat → sy_d) : sg := ((sy_i F 0).toInt, ub (sy_ai F 2) (sy_i F 0).toInt.toNat, (sy_i F 1).toInt, (sy_i F 79).toInt, hl3 (sy_ai F 78))
noncomputable def om (F : Nat → sy_d) : sg := ((sy_i F 1).toInt, ub (sy_ai F 23) (sy_i F 1).toInt.toNat, (sy_i F 10).toInt, (sy_i F 21).toInt, hl3 (sy_ai F 67))
theorem ox_eq {F F' : Nat → sy_d} (h0 : F' 0 = F 0) (h1 : F' 1 = F 1) (h2 : F' 2 = F 2) (h78 : F' 78 = F 78) (h79 : F' 79 = F 79) : ox F' = ox F := by
  unfold ox
  rw [nz_fi h0, nz_fi h1, nz_fa h2, nz_fa h78, nz_fi h79]
theorem om_eq {F F' : Nat → sy_d} (h0 : F' 1 = F 1) (h1 : F' 10 = F 10) (h2 : F' 23 = F 23) (h78 : F' 67 = F 67) (h79 : F' 21 = F 21) : om F' = om F := by
  unfold om
  rw [nz_fi h0, nz_fi h1, nz_fa h2, nz_fa h78, nz_fi h79]
theorem ub_z {l : List Int32} : ub l 0 = fun _ => 0 := by
  funext i
  exact ub_0 (Nat.zero_le _)
theorem hl_z {l : List Int32} (h : ∀ j, j < 3 → l.getD j 0 = 0) : hl3 l = fun _ => 0 := by
  funext i
  unfold hl3
  split
  · rename_i q
    rw [h i q]
    decide
  · rfl
theorem hl_u {l : List Int32} {k : Nat} (hk : k < 3) : hl3 (jm_upd l k 1) = fun i => if i = k then 1 else hl3 l i := by
  funext i
  unfold hl3
  rw [jm_upd_at]
  by_cases q : i = k
  · rw [if_pos (by omega), if_pos q, if_pos q]
    decide
  · rw [if_neg q, if_neg q]
/-- what each call makes of it, and answers -/
noncomputable def s_feed (a b c d e : Int32) (x : sg) : sg := if 2000 < x.1 + 20 then x else (x.1 + 20, apB (apB (apB (apB (apB x.2.1 x.1.toNat a) (x.1.toNat + 4) b) (x.1.toNat + 8) c) (x.1.toNat + 12) d) (x.1.toNat + 16) e, x.2.2)
noncomputable def a_feed (x : sg) : Int := if 2000 < x.1 + 20 then -1 else x.1 + 20
noncomputable def s_back (a : Int32) (x : sg) : sg := if a.toInt < 0 ∨ x.1 < a.toInt then x else (x.1 - a.toInt, (fun i => if i < (x.1 - a.toInt).toNat then x.2.1 i else 0), x.2.2)
noncomputable def a_back (a : Int32) (x : sg) : Int := if a.toInt < 0 ∨ x.1 < a.toInt then -1 else x.1 - a.toInt
noncomputable def s_read (x : sg) : sg := (0, (fun _ => 0), (rdA x.2.1 x.1.toNat).2, if (rdA x.2.1 x.1.toNat).1 = 0 then (0, fun _ => 0) else x.2.2.2)
noncomputable def a_read (x : sg) : Int := (rdA x.2.1 x.1.toNat).1
def tl_ok (a b : Int32) (n : Int) : Prop := (1 ≤ a.toInt ∧ a.toInt ≤ 9) ∧ (0 ≤ b.toInt ∧ b.toInt ≤ 9) ∧ n < 7
noncomputable def s_tell (a b : Int32) (x : sg) : sg := (x.1, x.2.1, x.2.2.1, if (1 ≤ a.toInt ∧ a.toInt ≤ 9) ∧ (0 ≤ b.toInt ∧ b.toInt ≤ 9) ∧ x.2.2.2.1 < 7 then x.2.2.2.1 + 1 else x.2.2.2.1, x.2.2.2.2)
noncomputable def a_tell (a b : Int32) (x : sg) : Int := if (1 ≤ a.toInt ∧ a.toInt ≤ 9) ∧ (0 ≤ b.toInt ∧ b.toInt ≤ 9) ∧ x.2.2.2.1 < 7 then x.2.2.2.1 else -1
noncomputable def s_forget (x : sg) : sg := (x.1, x.2.1, x.2.2.1, 0, x.2.2.2.2)
noncomputable def s_hold (a : Int32) (x : sg) : sg := if 0 ≤ a.toInt ∧ a.toInt ≤ 2 then (x.1, x.2.1, x.2.2.1, x.2.2.2.1, fun i => if i = a.toInt.toNat then 1 else x.2.2.2.2 i) else x
noncomputable def a_hold (a : Int32) (_ : sg) : Int := if 0 ≤ a.toInt ∧ a.toInt ≤ 2 then 1 else 0
noncomputable def a_rest (a : Int32) (x : sg) : Int := if (0 ≤ a.toInt ∧ a.toInt ≤ 2) ∧ x.2.2.2.2 a.toInt.toNat ≠ 0 then 1 else 0
/-- the class's cells keep their bounds, x is seen; the reference's are C2 -/
noncomputable def ov1 (C2 : List jm_c) (x : sg) (G : jm_h) : Prop := ∃ (t : Nat) (F : Nat → sy_d), t < 4 ∧ G = ((sy_dh F [] [] (iv_H t)).1, C2) ∧ iv_in F iv_B0 ∧ jx_ok F ∧ sy_al F 42 = wls ∧ ox F = x
noncomputable def ov2 (C1 : List jm_c) (x : sg) (G : jm_h) : Prop := ∃ F : Nat → sy_d, G = (C1, (sy_dh F [] [] (iv_H 4)).2) ∧ iv_in F iv_B4 ∧ jm_rpn F ∧ sy_al F 29 = wls ∧ om F = x
noncomputable def ov (G : jm_h) : Prop := ∃ (s : Nat) (F F2 : Nat → sy_d), s < 4 ∧ G = ((sy_dh F [] [] (iv_H s)).1, (sy_dh F2 [] [] (iv_H 4)).2) ∧ iv_in F iv_B0 ∧ jx_ok F ∧ iv_in F2 iv_B4 ∧ jm_rpn F2 ∧ sy_al F 42 = wls ∧ sy_al F2 29 = wls ∧ ox F = om F2
noncomputable def oxT (Ls : Nat) (xs : Nat → Int32) (M : jm_M) (As : List Value) (V : sg → Int32 → Prop) (f : sg → sg) : Prop := ∀ (s : Nat) (F : Nat → sy_d) (X2 : List jm_c), s < 4 → iv_in F iv_B0 → jx_ok F → sy_al F 42 = wls → ∃ d, d ≤ 60 ∧ jm_T Ls xs d M (.ref 8 :: As) ((sy_dh F [] [] (iv_H s)).1, X2) 0 0 (fun v G => (∃ r : Int32, v = some (.int r) ∧ V (ox F) r) ∧ ov1 X2 (f (ox F)) G)
noncomputable def omT (Ls : Nat) (xs : Nat → Int32) (M : jm_M) (As : List Value) (V : sg → Int32 → Prop) (f : sg → sg) : Prop := ∃ d, d ≤ 60 ∧ ∀ (F : Nat → sy_d) (X1 : List jm_c), iv_in F iv_B4 → jm_rpn F → sy_al F 29 = wls → jm_T Ls xs d M (.ref 1000 :: As) (X1, (sy_dh F [] [] (iv_H 4)).2) 0 0 (fun v G => (∃ r : Int32, v = some (.int r) ∧ V (om F) r) ∧ ov2 X1 (f (om F)) G)
/-- a contract of the class, used inside -/
theorem oct_c {n s d : Nat} {Wr : List Nat} {A : List sy_v} {E : List iv_t} {M : jm_M} (h : ct_ok jj (n, A, s, [s], E, Wr, iv_B0, none, d)) (hM : jm_TB[n]? = some M) (hs : s < 4) {Ls : Nat} {xs : Nat → Int32} (F dd : Nat → sy_d) (X1 X2 : List jm_c) {vs : List Value} (hA : A.map (sy_dv (ny F dd)) = vs) (hE : iv_in (ny F dd) E) (hJ : jx_ok F) :
    jm_T Ls xs d M vs (sy_dh F X1 X2 (iv_H s)) 0 0 (fun v G => ∃ F' : Nat → sy_d, v = none ∧ G = sy_dh F' X1 X2 (iv_H s) ∧ iv_in F' iv_B0 ∧ (∀ j, j < 82 → Wr.contains j = false → F' j = F j) ∧ jx_ok F') := by
  have k0 : ∀ j, j < 82 → ny F dd j = F j := ny_lt
  have hJ0 : jx_ok (ny F dd) := jx_ok_eq (k0 39 (by decide)) (k0 41 (by decide)) hJ
  rw [dh_x F X1 X2 hs, dh_nx hs k0, ← dh_x (ny F dd) X1 X2 hs, ← hA]
  refine jm_T_mono (h M hM Ls xs (ny F dd) X1 X2 hE ((jj_x hs).mpr hJ0)) ?_
  rintro v G ⟨t, F', ht, hG, hf, hB', hv, hj⟩
  have ht : t ∈ [s] := ht
  have e : t = s := List.mem_singleton.mp ht
  subst e
  refine ⟨F', ?_, hG, hB', fun j hj hn => (hf j (by
    show j < iv_nh t
    unfold iv_nh
    rw [if_neg (by omega)]
    exact hj) hn).trans (k0 j hj), (jj_x hs).mp hj⟩
  cases v with
  | none => rfl
  | some x => exact absurd hv (by intro q; cases q)
theorem hd_mono {Ls : Nat} {xs : Nat → Int32} {d : Nat} {M : jm_M} {Q Q' : Option Value → jm_h → Prop} {st : jm_St} (h : hd_W Ls xs d M Q st) (m : ∀ v G, Q v G → Q' v G) : hd_W Ls xs d M Q' st :=
  fun _ _ _ _ _ _ _ _ _ _ _ _ _ _ _ hC hP => h hC (fun v G q => hP v G (m v G q))
theorem wd_wls {F : Nat → sy_d} (h : sy_al F 42 = wls) : wd F := by
  unfold wd wg
  rw [h]
  have q : ∀ i : Nat, i < 23 → ∀ j : Nat, j < 23 → wls.getD i 0 = wls.getD j 0 → i = j := by decide +kernel
  exact fun i j hi hj => q i hi j hj
