/-! ===== the reference reads, way by way ===== -/
theorem re_45_p0 {Ls : Nat} {xs : Nat → Int32} {d : Nat} {Q : Option Value → jm_h → Prop} (hd : 3 ≤ d) (F : Nat → sy_d) (X1 X2 : List jm_c) (hB : iv_in F iv_B4)
    (h0 : 0 ≤ (((1 : Int32)) - (sy_i F 11)).toInt ∧ (((1 : Int32)) - (sy_i F 11)).toInt < 2)
    (h1 : 0 ≤ (((1 : Int32)) - (sy_i F 11)).toInt ∧ (((1 : Int32)) - (sy_i F 11)).toInt < 2)
    (h2 : 0 ≤ (((1 : Int32)) - (sy_i F 11)).toInt ∧ (((1 : Int32)) - (sy_i F 11)).toInt < 2)
    (h3 : 0 ≤ (((1 : Int32)) - (sy_i F 11)).toInt ∧ (((1 : Int32)) - (sy_i F 11)).toInt < 2)
    (h4 : 0 ≤ (((1 : Int32)) - (sy_i F 11)).toInt ∧ (((1 : Int32)) - (sy_i F 11)).toInt < 2)
    (h5 : 0 ≤ ((((6 : Int32)) * (((1 : Int32)) - (sy_i F 11))) + ((0 : Int32))).toInt ∧ ((((6 : Int32)) * (((1 : Int32)) - (sy_i F 11))) + ((0 : Int32))).toInt < 12)
    (h6 : 0 ≤ ((((6 : Int32)) * (((1 : Int32)) - (sy_i F 11))) + ((0 : Int32))).toInt ∧ ((((6 : Int32)) * (((1 : Int32)) - (sy_i F 11))) + ((0 : Int32))).toInt < 12)
    (h7 : 0 ≤ ((((6 : Int32)) * (((1 : Int32)) - (sy_i F 11))) + ((1 : Int32))).toInt ∧ ((((6 : Int32)) * (((1 : Int32)) - (sy_i F 11))) + ((1 : Int32))).toInt < 12)
    (h8 : 0 ≤ ((((6 : Int32)) * (((1 : Int32)) - (sy_i F 11))) + ((1 : Int32))).toInt ∧ ((((6 : Int32)) * (((1 : Int32)) - (sy_i F 11))) + ((1 : Int32))).toInt < 12)
    (h9 : 0 ≤ ((((6 : Int32)) * (((1 : Int32)) - (sy_i F 11))) + ((2 : Int32))).toInt ∧ ((((6 : Int32)) * (((1 : Int32)) - (sy_i F 11))) + ((2 : Int32))).toInt < 12)
    (h10 : 0 ≤ ((((6 : Int32)) * (((1 : Int32)) - (sy_i F 11))) + ((2 : Int32))).toInt ∧ ((((6 : Int32)) * (((1 : Int32)) - (sy_i F 11))) + ((2 : Int32))).toInt < 12)
    (h11 : 0 ≤ ((((6 : Int32)) * (((1 : Int32)) - (sy_i F 11))) + ((3 : Int32))).toInt ∧ ((((6 : Int32)) * (((1 : Int32)) - (sy_i F 11))) + ((3 : Int32))).toInt < 12)
    (h12 : 0 ≤ ((((6 : Int32)) * (((1 : Int32)) - (sy_i F 11))) + ((3 : Int32))).toInt ∧ ((((6 : Int32)) * (((1 : Int32)) - (sy_i F 11))) + ((3 : Int32))).toInt < 12)
    (h13 : 0 ≤ ((((6 : Int32)) * (((1 : Int32)) - (sy_i F 11))) + ((4 : Int32))).toInt ∧ ((((6 : Int32)) * (((1 : Int32)) - (sy_i F 11))) + ((4 : Int32))).toInt < 12)
    (h14 : 0 ≤ ((((6 : Int32)) * (((1 : Int32)) - (sy_i F 11))) + ((4 : Int32))).toInt ∧ ((((6 : Int32)) * (((1 : Int32)) - (sy_i F 11))) + ((4 : Int32))).toInt < 12)
    (h15 : 0 ≤ ((((6 : Int32)) * (((1 : Int32)) - (sy_i F 11))) + ((5 : Int32))).toInt ∧ ((((6 : Int32)) * (((1 : Int32)) - (sy_i F 11))) + ((5 : Int32))).toInt < 12)
    (h16 : 0 ≤ ((((6 : Int32)) * (((1 : Int32)) - (sy_i F 11))) + ((5 : Int32))).toInt ∧ ((((6 : Int32)) * (((1 : Int32)) - (sy_i F 11))) + ((5 : Int32))).toInt < 12)
    (k : ∀ F1 : Nat → sy_d, (∀ j, j < 69 → j ≠ 4 ∧ j ≠ 5 ∧ j ≠ 6 ∧ j ≠ 8 ∧ j ≠ 12 ∧ j ≠ 13 ∧ j ≠ 14 ∧ j ≠ 15 ∧ j ≠ 31 ∧ j ≠ 35 ∧ j ≠ 39 ∧ j ≠ 40 ∧ j ≠ 41 ∧ j ≠ 42 ∧ j ≠ 43 → F1 j = F j) → F1 4 = .inl (.int ((0 : Int32))) → F1 5 = .inl (.int ((0 : Int32))) → F1 6 = .inl (.int ((0 : Int32))) → F1 8 = .inl (.int ((0 : Int32))) → F1 12 = .inl (.int (((1 : Int32)) - (sy_i F 11))) → F1 13 = .inl (.int ((0 : Int32))) → F1 14 = .inl (.int (((130 : Int32)) * (((1 : Int32)) - (sy_i F 11)))) → F1 15 = .inl (.int (((420 : Int32)) * (((1 : Int32)) - (sy_i F 11)))) → F1 31 = .inr (.inl (jm_upd (sy_ai F 31) (((1 : Int32)) - (sy_i F 11)).toNatClampNeg ((0 : Int32)))) → F1 35 = .inr (.inl (jm_upd (sy_ai F 35) (((1 : Int32)) - (sy_i F 11)).toNatClampNeg ((0 : Int32)))) → F1 39 = .inr (.inl (jm_upd (sy_ai F 39) (((1 : Int32)) - (sy_i F 11)).toNatClampNeg ((10 : Int32)))) → F1 40 = .inr (.inl (jm_upd (sy_ai F 40) (((1 : Int32)) - (sy_i F 11)).toNatClampNeg ((6 : Int32)))) → F1 41 = .inr (.inl (jm_upd (sy_ai F 41) (((1 : Int32)) - (sy_i F 11)).toNatClampNeg ((0 : Int32)))) → F1 42 = .inr (.inl (jm_upd (jm_upd (jm_upd (jm_upd (jm_upd (jm_upd (sy_ai F 42) ((((6 : Int32)) * (((1 : Int32)) - (sy_i F 11))) + ((0 : Int32))).toNatClampNeg ((0 : Int32))) ((((6 : Int32)) * (((1 : Int32)) - (sy_i F 11))) + ((1 : Int32))).toNatClampNeg ((0 : Int32))) ((((6 : Int32)) * (((1 : Int32)) - (sy_i F 11))) + ((2 : Int32))).toNatClampNeg ((0 : Int32))) ((((6 : Int32)) * (((1 : Int32)) - (sy_i F 11))) + ((3 : Int32))).toNatClampNeg ((0 : Int32))) ((((6 : Int32)) * (((1 : Int32)) - (sy_i F 11))) + ((4 : Int32))).toNatClampNeg ((0 : Int32))) ((((6 : Int32)) * (((1 : Int32)) - (sy_i F 11))) + ((5 : Int32))).toNatClampNeg ((0 : Int32)))) → F1 43 = .inr (.inl (jm_upd (jm_upd (jm_upd (jm_upd (jm_upd (jm_upd (sy_ai F 43) ((((6 : Int32)) * (((1 : Int32)) - (sy_i F 11))) + ((0 : Int32))).toNatClampNeg ((0 : Int32))) ((((6 : Int32)) * (((1 : Int32)) - (sy_i F 11))) + ((1 : Int32))).toNatClampNeg ((0 : Int32))) ((((6 : Int32)) * (((1 : Int32)) - (sy_i F 11))) + ((2 : Int32))).toNatClampNeg ((0 : Int32))) ((((6 : Int32)) * (((1 : Int32)) - (sy_i F 11))) + ((3 : Int32))).toNatClampNeg ((0 : Int32))) ((((6 : Int32)) * (((1 : Int32)) - (sy_i F 11))) + ((4 : Int32))).toNatClampNeg ((0 : Int32))) ((((6 : Int32)) * (((1 : Int32)) - (sy_i F 11))) + ((5 : Int32))).toNatClampNeg ((0 : Int32)))) → hd_W Ls xs d jm_M150 Q (112, sy_dL F1 [some (.inl (.ref 1000)), none], sy_dS F1 [], sy_dh F1 X1 X2 (iv_H 4), 0, 0)) :
    hd_W Ls xs d jm_M150 Q (45, sy_dL F [some (.inl (.ref 1000)), none], sy_dS F [], sy_dh F X1 X2 (iv_H 4), 0, 0) := by
  refine hd_run (s := 4) (nv := 69) (pc := 112) (L := [some (.inl (.ref 1000)), none]) (S := []) (uh := hd_ov (iv_id 0 iv_B4) [(4, .inl (.inl (.int 0))), (5, .inl (.inl (.int 0))), (6, .inl (.inl (.int 0))), (8, .inl (.inl (.int 0))), (12, .inl (.inr (.inl 69))), (13, .inl (.inl (.int 0))), (14, .inl (.inr (.inl 111))), (15, .inl (.inr (.inl 112))), (31, .inr (.inr (.inl 70))), (35, .inr (.inr (.inl 71))), (39, .inr (.inr (.inl 72))), (40, .inr (.inr (.inl 73))), (41, .inr (.inr (.inl 74))), (42, .inr (.inr (.inl 107))), (43, .inr (.inr (.inl 110)))]) (ul := []) (f := false) (sp := [112]) (d0 := 2) (O := []) (T := [(1, [.inl (.int 1), .inr (.inl 11)], []), (40, [.inr (.inl 69), .inl (.int 0)], [.inr (.inl 31)]), (40, [.inr (.inl 69), .inl (.int 0)], [.inr (.inl 35)]), (40, [.inr (.inl 69), .inl (.int 10)], [.inr (.inl 39)]), (40, [.inr (.inl 69), .inl (.int 6)], [.inr (.inl 40)]), (40, [.inr (.inl 69), .inl (.int 0)], [.inr (.inl 41)]), (2, [.inl (.int 6), .inr (.inl 69)], []), (0, [.inr (.inl 75), .inl (.int 0)], []), (40, [.inr (.inl 76), .inl (.int 0)], [.inr (.inl 42)]), (2, [.inl (.int 6), .inr (.inl 69)], []), (0, [.inr (.inl 78), .inl (.int 0)], []), (40, [.inr (.inl 79), .inl (.int 0)], [.inr (.inl 43)]), (2, [.inl (.int 6), .inr (.inl 69)], []), (0, [.inr (.inl 81), .inl (.int 1)], []), (40, [.inr (.inl 82), .inl (.int 0)], [.inr (.inl 77)]), (2, [.inl (.int 6), .inr (.inl 69)], []), (0, [.inr (.inl 84), .inl (.int 1)], []), (40, [.inr (.inl 85), .inl (.int 0)], [.inr (.inl 80)]), (2, [.inl (.int 6), .inr (.inl 69)], []), (0, [.inr (.inl 87), .inl (.int 2)], []), (40, [.inr (.inl 88), .inl (.int 0)], [.inr (.inl 83)]), (2, [.inl (.int 6), .inr (.inl 69)], []), (0, [.inr (.inl 90), .inl (.int 2)], []), (40, [.inr (.inl 91), .inl (.int 0)], [.inr (.inl 86)]), (2, [.inl (.int 6), .inr (.inl 69)], []), (0, [.inr (.inl 93), .inl (.int 3)], []), (40, [.inr (.inl 94), .inl (.int 0)], [.inr (.inl 89)]), (2, [.inl (.int 6), .inr (.inl 69)], []), (0, [.inr (.inl 96), .inl (.int 3)], []), (40, [.inr (.inl 97), .inl (.int 0)], [.inr (.inl 92)]), (2, [.inl (.int 6), .inr (.inl 69)], []), (0, [.inr (.inl 99), .inl (.int 4)], []), (40, [.inr (.inl 100), .inl (.int 0)], [.inr (.inl 95)]), (2, [.inl (.int 6), .inr (.inl 69)], []), (0, [.inr (.inl 102), .inl (.int 4)], []), (40, [.inr (.inl 103), .inl (.int 0)], [.inr (.inl 98)]), (2, [.inl (.int 6), .inr (.inl 69)], []), (0, [.inr (.inl 105), .inl (.int 5)], []), (40, [.inr (.inl 106), .inl (.int 0)], [.inr (.inl 101)]), (2, [.inl (.int 6), .inr (.inl 69)], []), (0, [.inr (.inl 108), .inl (.int 5)], []), (40, [.inr (.inl 109), .inl (.int 0)], [.inr (.inl 104)]), (2, [.inl (.int 130), .inr (.inl 69)], []), (2, [.inl (.int 420), .inr (.inl 69)], [])]) (P := [(6, .inr (.inl 69), .inl (.ref 2)), (6, .inr (.inl 69), .inl (.ref 2)), (6, .inr (.inl 69), .inl (.ref 2)), (6, .inr (.inl 69), .inl (.ref 2)), (6, .inr (.inl 69), .inl (.ref 2)), (6, .inr (.inl 76), .inl (.ref 12)), (6, .inr (.inl 79), .inl (.ref 12)), (6, .inr (.inl 82), .inl (.ref 12)), (6, .inr (.inl 85), .inl (.ref 12)), (6, .inr (.inl 88), .inl (.ref 12)), (6, .inr (.inl 91), .inl (.ref 12)), (6, .inr (.inl 94), .inl (.ref 12)), (6, .inr (.inl 97), .inl (.ref 12)), (6, .inr (.inl 100), .inl (.ref 12)), (6, .inr (.inl 103), .inl (.ref 12)), (6, .inr (.inl 106), .inl (.ref 12)), (6, .inr (.inl 109), .inl (.ref 12))]) jm_ok150 (by decide +kernel) (by decide +kernel) hd F X1 X2 (fun F' hF hs => ?_)
  have b11 := hd_b (F := F) (F' := F') (k := 11) (hF 11 (by decide))
  have t69 : sy_dv F' (.inr (.inl 69)) = .int (((1 : Int32)) - (sy_i F 11)) := hd_o (hs 0 _ rfl) rfl b11 rfl
  have t75 : sy_dv F' (.inr (.inl 75)) = .int (((6 : Int32)) * (((1 : Int32)) - (sy_i F 11))) := hd_o (hs 6 _ rfl) rfl t69 rfl
  have t76 : sy_dv F' (.inr (.inl 76)) = .int ((((6 : Int32)) * (((1 : Int32)) - (sy_i F 11))) + ((0 : Int32))) := hd_o (hs 7 _ rfl) t75 rfl rfl
  have t78 : sy_dv F' (.inr (.inl 78)) = .int (((6 : Int32)) * (((1 : Int32)) - (sy_i F 11))) := hd_o (hs 9 _ rfl) rfl t69 rfl
  have t79 : sy_dv F' (.inr (.inl 79)) = .int ((((6 : Int32)) * (((1 : Int32)) - (sy_i F 11))) + ((0 : Int32))) := hd_o (hs 10 _ rfl) t78 rfl rfl
  have t81 : sy_dv F' (.inr (.inl 81)) = .int (((6 : Int32)) * (((1 : Int32)) - (sy_i F 11))) := hd_o (hs 12 _ rfl) rfl t69 rfl
  have t82 : sy_dv F' (.inr (.inl 82)) = .int ((((6 : Int32)) * (((1 : Int32)) - (sy_i F 11))) + ((1 : Int32))) := hd_o (hs 13 _ rfl) t81 rfl rfl
  have t84 : sy_dv F' (.inr (.inl 84)) = .int (((6 : Int32)) * (((1 : Int32)) - (sy_i F 11))) := hd_o (hs 15 _ rfl) rfl t69 rfl
  have t85 : sy_dv F' (.inr (.inl 85)) = .int ((((6 : Int32)) * (((1 : Int32)) - (sy_i F 11))) + ((1 : Int32))) := hd_o (hs 16 _ rfl) t84 rfl rfl
  have t87 : sy_dv F' (.inr (.inl 87)) = .int (((6 : Int32)) * (((1 : Int32)) - (sy_i F 11))) := hd_o (hs 18 _ rfl) rfl t69 rfl
  have t88 : sy_dv F' (.inr (.inl 88)) = .int ((((6 : Int32)) * (((1 : Int32)) - (sy_i F 11))) + ((2 : Int32))) := hd_o (hs 19 _ rfl) t87 rfl rfl
  have t90 : sy_dv F' (.inr (.inl 90)) = .int (((6 : Int32)) * (((1 : Int32)) - (sy_i F 11))) := hd_o (hs 21 _ rfl) rfl t69 rfl
  have t91 : sy_dv F' (.inr (.inl 91)) = .int ((((6 : Int32)) * (((1 : Int32)) - (sy_i F 11))) + ((2 : Int32))) := hd_o (hs 22 _ rfl) t90 rfl rfl
  have t93 : sy_dv F' (.inr (.inl 93)) = .int (((6 : Int32)) * (((1 : Int32)) - (sy_i F 11))) := hd_o (hs 24 _ rfl) rfl t69 rfl
  have t94 : sy_dv F' (.inr (.inl 94)) = .int ((((6 : Int32)) * (((1 : Int32)) - (sy_i F 11))) + ((3 : Int32))) := hd_o (hs 25 _ rfl) t93 rfl rfl
  have t96 : sy_dv F' (.inr (.inl 96)) = .int (((6 : Int32)) * (((1 : Int32)) - (sy_i F 11))) := hd_o (hs 27 _ rfl) rfl t69 rfl
  have t97 : sy_dv F' (.inr (.inl 97)) = .int ((((6 : Int32)) * (((1 : Int32)) - (sy_i F 11))) + ((3 : Int32))) := hd_o (hs 28 _ rfl) t96 rfl rfl
  have t99 : sy_dv F' (.inr (.inl 99)) = .int (((6 : Int32)) * (((1 : Int32)) - (sy_i F 11))) := hd_o (hs 30 _ rfl) rfl t69 rfl
  have t100 : sy_dv F' (.inr (.inl 100)) = .int ((((6 : Int32)) * (((1 : Int32)) - (sy_i F 11))) + ((4 : Int32))) := hd_o (hs 31 _ rfl) t99 rfl rfl
  have t102 : sy_dv F' (.inr (.inl 102)) = .int (((6 : Int32)) * (((1 : Int32)) - (sy_i F 11))) := hd_o (hs 33 _ rfl) rfl t69 rfl
  have t103 : sy_dv F' (.inr (.inl 103)) = .int ((((6 : Int32)) * (((1 : Int32)) - (sy_i F 11))) + ((4 : Int32))) := hd_o (hs 34 _ rfl) t102 rfl rfl
  have t105 : sy_dv F' (.inr (.inl 105)) = .int (((6 : Int32)) * (((1 : Int32)) - (sy_i F 11))) := hd_o (hs 36 _ rfl) rfl t69 rfl
  have t106 : sy_dv F' (.inr (.inl 106)) = .int ((((6 : Int32)) * (((1 : Int32)) - (sy_i F 11))) + ((5 : Int32))) := hd_o (hs 37 _ rfl) t105 rfl rfl
  have t108 : sy_dv F' (.inr (.inl 108)) = .int (((6 : Int32)) * (((1 : Int32)) - (sy_i F 11))) := hd_o (hs 39 _ rfl) rfl t69 rfl
  have t109 : sy_dv F' (.inr (.inl 109)) = .int ((((6 : Int32)) * (((1 : Int32)) - (sy_i F 11))) + ((5 : Int32))) := hd_o (hs 40 _ rfl) t108 rfl rfl
  have t111 : sy_dv F' (.inr (.inl 111)) = .int (((130 : Int32)) * (((1 : Int32)) - (sy_i F 11))) := hd_o (hs 42 _ rfl) rfl t69 rfl
  have t112 : sy_dv F' (.inr (.inl 112)) = .int (((420 : Int32)) * (((1 : Int32)) - (sy_i F 11))) := hd_o (hs 43 _ rfl) rfl t69 rfl
  have a31 := hd_ba (F := F) (F' := F') (k := 31) (hF 31 (by decide))
  have t70 : sy_da F' (.inr (.inl 70)) = .inl (jm_upd (sy_ai F 31) (((1 : Int32)) - (sy_i F 11)).toNatClampNeg ((0 : Int32))) := hd_up (hs 1 _ rfl) t69 rfl a31
  have a35 := hd_ba (F := F) (F' := F') (k := 35) (hF 35 (by decide))
  have t71 : sy_da F' (.inr (.inl 71)) = .inl (jm_upd (sy_ai F 35) (((1 : Int32)) - (sy_i F 11)).toNatClampNeg ((0 : Int32))) := hd_up (hs 2 _ rfl) t69 rfl a35
  have a39 := hd_ba (F := F) (F' := F') (k := 39) (hF 39 (by decide))
  have t72 : sy_da F' (.inr (.inl 72)) = .inl (jm_upd (sy_ai F 39) (((1 : Int32)) - (sy_i F 11)).toNatClampNeg ((10 : Int32))) := hd_up (hs 3 _ rfl) t69 rfl a39
  have a40 := hd_ba (F := F) (F' := F') (k := 40) (hF 40 (by decide))
  have t73 : sy_da F' (.inr (.inl 73)) = .inl (jm_upd (sy_ai F 40) (((1 : Int32)) - (sy_i F 11)).toNatClampNeg ((6 : Int32))) := hd_up (hs 4 _ rfl) t69 rfl a40
  have a41 := hd_ba (F := F) (F' := F') (k := 41) (hF 41 (by decide))
  have t74 : sy_da F' (.inr (.inl 74)) = .inl (jm_upd (sy_ai F 41) (((1 : Int32)) - (sy_i F 11)).toNatClampNeg ((0 : Int32))) := hd_up (hs 5 _ rfl) t69 rfl a41
  have a42 := hd_ba (F := F) (F' := F') (k := 42) (hF 42 (by decide))
  have t77 : sy_da F' (.inr (.inl 77)) = .inl (jm_upd (sy_ai F 42) ((((6 : Int32)) * (((1 : Int32)) - (sy_i F 11))) + ((0 : Int32))).toNatClampNeg ((0 : Int32))) := hd_up (hs 8 _ rfl) t76 rfl a42
  have t83 : sy_da F' (.inr (.inl 83)) = .inl (jm_upd (jm_upd (sy_ai F 42) ((((6 : Int32)) * (((1 : Int32)) - (sy_i F 11))) + ((0 : Int32))).toNatClampNeg ((0 : Int32))) ((((6 : Int32)) * (((1 : Int32)) - (sy_i F 11))) + ((1 : Int32))).toNatClampNeg ((0 : Int32))) := hd_up (hs 14 _ rfl) t82 rfl t77
  have t89 : sy_da F' (.inr (.inl 89)) = .inl (jm_upd (jm_upd (jm_upd (sy_ai F 42) ((((6 : Int32)) * (((1 : Int32)) - (sy_i F 11))) + ((0 : Int32))).toNatClampNeg ((0 : Int32))) ((((6 : Int32)) * (((1 : Int32)) - (sy_i F 11))) + ((1 : Int32))).toNatClampNeg ((0 : Int32))) ((((6 : Int32)) * (((1 : Int32)) - (sy_i F 11))) + ((2 : Int32))).toNatClampNeg ((0 : Int32))) := hd_up (hs 20 _ rfl) t88 rfl t83
  have t95 : sy_da F' (.inr (.inl 95)) = .inl (jm_upd (jm_upd (jm_upd (jm_upd (sy_ai F 42) ((((6 : Int32)) * (((1 : Int32)) - (sy_i F 11))) + ((0 : Int32))).toNatClampNeg ((0 : Int32))) ((((6 : Int32)) * (((1 : Int32)) - (sy_i F 11))) + ((1 : Int32))).toNatClampNeg ((0 : Int32))) ((((6 : Int32)) * (((1 : Int32)) - (sy_i F 11))) + ((2 : Int32))).toNatClampNeg ((0 : Int32))) ((((6 : Int32)) * (((1 : Int32)) - (sy_i F 11))) + ((3 : Int32))).toNatClampNeg ((0 : Int32))) := hd_up (hs 26 _ rfl) t94 rfl t89
  have t101 : sy_da F' (.inr (.inl 101)) = .inl (jm_upd (jm_upd (jm_upd (jm_upd (jm_upd (sy_ai F 42) ((((6 : Int32)) * (((1 : Int32)) - (sy_i F 11))) + ((0 : Int32))).toNatClampNeg ((0 : Int32))) ((((6 : Int32)) * (((1 : Int32)) - (sy_i F 11))) + ((1 : Int32))).toNatClampNeg ((0 : Int32))) ((((6 : Int32)) * (((1 : Int32)) - (sy_i F 11))) + ((2 : Int32))).toNatClampNeg ((0 : Int32))) ((((6 : Int32)) * (((1 : Int32)) - (sy_i F 11))) + ((3 : Int32))).toNatClampNeg ((0 : Int32))) ((((6 : Int32)) * (((1 : Int32)) - (sy_i F 11))) + ((4 : Int32))).toNatClampNeg ((0 : Int32))) := hd_up (hs 32 _ rfl) t100 rfl t95
  have t107 : sy_da F' (.inr (.inl 107)) = .inl (jm_upd (jm_upd (jm_upd (jm_upd (jm_upd (jm_upd (sy_ai F 42) ((((6 : Int32)) * (((1 : Int32)) - (sy_i F 11))) + ((0 : Int32))).toNatClampNeg ((0 : Int32))) ((((6 : Int32)) * (((1 : Int32)) - (sy_i F 11))) + ((1 : Int32))).toNatClampNeg ((0 : Int32))) ((((6 : Int32)) * (((1 : Int32)) - (sy_i F 11))) + ((2 : Int32))).toNatClampNeg ((0 : Int32))) ((((6 : Int32)) * (((1 : Int32)) - (sy_i F 11))) + ((3 : Int32))).toNatClampNeg ((0 : Int32))) ((((6 : Int32)) * (((1 : Int32)) - (sy_i F 11))) + ((4 : Int32))).toNatClampNeg ((0 : Int32))) ((((6 : Int32)) * (((1 : Int32)) - (sy_i F 11))) + ((5 : Int32))).toNatClampNeg ((0 : Int32))) := hd_up (hs 38 _ rfl) t106 rfl t101
  have a43 := hd_ba (F := F) (F' := F') (k := 43) (hF 43 (by decide))
  have t80 : sy_da F' (.inr (.inl 80)) = .inl (jm_upd (sy_ai F 43) ((((6 : Int32)) * (((1 : Int32)) - (sy_i F 11))) + ((0 : Int32))).toNatClampNeg ((0 : Int32))) := hd_up (hs 11 _ rfl) t79 rfl a43
  have t86 : sy_da F' (.inr (.inl 86)) = .inl (jm_upd (jm_upd (sy_ai F 43) ((((6 : Int32)) * (((1 : Int32)) - (sy_i F 11))) + ((0 : Int32))).toNatClampNeg ((0 : Int32))) ((((6 : Int32)) * (((1 : Int32)) - (sy_i F 11))) + ((1 : Int32))).toNatClampNeg ((0 : Int32))) := hd_up (hs 17 _ rfl) t85 rfl t80
  have t92 : sy_da F' (.inr (.inl 92)) = .inl (jm_upd (jm_upd (jm_upd (sy_ai F 43) ((((6 : Int32)) * (((1 : Int32)) - (sy_i F 11))) + ((0 : Int32))).toNatClampNeg ((0 : Int32))) ((((6 : Int32)) * (((1 : Int32)) - (sy_i F 11))) + ((1 : Int32))).toNatClampNeg ((0 : Int32))) ((((6 : Int32)) * (((1 : Int32)) - (sy_i F 11))) + ((2 : Int32))).toNatClampNeg ((0 : Int32))) := hd_up (hs 23 _ rfl) t91 rfl t86
  have t98 : sy_da F' (.inr (.inl 98)) = .inl (jm_upd (jm_upd (jm_upd (jm_upd (sy_ai F 43) ((((6 : Int32)) * (((1 : Int32)) - (sy_i F 11))) + ((0 : Int32))).toNatClampNeg ((0 : Int32))) ((((6 : Int32)) * (((1 : Int32)) - (sy_i F 11))) + ((1 : Int32))).toNatClampNeg ((0 : Int32))) ((((6 : Int32)) * (((1 : Int32)) - (sy_i F 11))) + ((2 : Int32))).toNatClampNeg ((0 : Int32))) ((((6 : Int32)) * (((1 : Int32)) - (sy_i F 11))) + ((3 : Int32))).toNatClampNeg ((0 : Int32))) := hd_up (hs 29 _ rfl) t97 rfl t92
  have t104 : sy_da F' (.inr (.inl 104)) = .inl (jm_upd (jm_upd (jm_upd (jm_upd (jm_upd (sy_ai F 43) ((((6 : Int32)) * (((1 : Int32)) - (sy_i F 11))) + ((0 : Int32))).toNatClampNeg ((0 : Int32))) ((((6 : Int32)) * (((1 : Int32)) - (sy_i F 11))) + ((1 : Int32))).toNatClampNeg ((0 : Int32))) ((((6 : Int32)) * (((1 : Int32)) - (sy_i F 11))) + ((2 : Int32))).toNatClampNeg ((0 : Int32))) ((((6 : Int32)) * (((1 : Int32)) - (sy_i F 11))) + ((3 : Int32))).toNatClampNeg ((0 : Int32))) ((((6 : Int32)) * (((1 : Int32)) - (sy_i F 11))) + ((4 : Int32))).toNatClampNeg ((0 : Int32))) := hd_up (hs 35 _ rfl) t103 rfl t98
  have t110 : sy_da F' (.inr (.inl 110)) = .inl (jm_upd (jm_upd (jm_upd (jm_upd (jm_upd (jm_upd (sy_ai F 43) ((((6 : Int32)) * (((1 : Int32)) - (sy_i F 11))) + ((0 : Int32))).toNatClampNeg ((0 : Int32))) ((((6 : Int32)) * (((1 : Int32)) - (sy_i F 11))) + ((1 : Int32))).toNatClampNeg ((0 : Int32))) ((((6 : Int32)) * (((1 : Int32)) - (sy_i F 11))) + ((2 : Int32))).toNatClampNeg ((0 : Int32))) ((((6 : Int32)) * (((1 : Int32)) - (sy_i F 11))) + ((3 : Int32))).toNatClampNeg ((0 : Int32))) ((((6 : Int32)) * (((1 : Int32)) - (sy_i F 11))) + ((4 : Int32))).toNatClampNeg ((0 : Int32))) ((((6 : Int32)) * (((1 : Int32)) - (sy_i F 11))) + ((5 : Int32))).toNatClampNeg ((0 : Int32))) := hd_up (hs 41 _ rfl) t109 rfl t104
  have hB' : iv_in F' iv_B4 := iv_in_eq hB (fun j hj => hF j (Nat.lt_of_lt_of_le hj (by decide +kernel)))
  refine ⟨List.forall_mem_cons.mpr ⟨hd_pb t69 (by first | exact h0 | exact h0), List.forall_mem_cons.mpr ⟨hd_pb t69 (by first | exact h1 | exact h1), List.forall_mem_cons.mpr ⟨hd_pb t69 (by first | exact h2 | exact h2), List.forall_mem_cons.mpr ⟨hd_pb t69 (by first | exact h3 | exact h3), List.forall_mem_cons.mpr ⟨hd_pb t69 (by first | exact h4 | exact h4), List.forall_mem_cons.mpr ⟨hd_pb t76 (by first | exact h5 | exact h5), List.forall_mem_cons.mpr ⟨hd_pb t79 (by first | exact h6 | exact h6), List.forall_mem_cons.mpr ⟨hd_pb t82 (by first | exact h7 | exact h7), List.forall_mem_cons.mpr ⟨hd_pb t85 (by first | exact h8 | exact h8), List.forall_mem_cons.mpr ⟨hd_pb t88 (by first | exact h9 | exact h9), List.forall_mem_cons.mpr ⟨hd_pb t91 (by first | exact h10 | exact h10), List.forall_mem_cons.mpr ⟨hd_pb t94 (by first | exact h11 | exact h11), List.forall_mem_cons.mpr ⟨hd_pb t97 (by first | exact h12 | exact h12), List.forall_mem_cons.mpr ⟨hd_pb t100 (by first | exact h13 | exact h13), List.forall_mem_cons.mpr ⟨hd_pb t103 (by first | exact h14 | exact h14), List.forall_mem_cons.mpr ⟨hd_pb t106 (by first | exact h15 | exact h15), List.forall_mem_cons.mpr ⟨hd_pb t109 (by first | exact h16 | exact h16), fun _ h => absurd h List.not_mem_nil⟩⟩⟩⟩⟩⟩⟩⟩⟩⟩⟩⟩⟩⟩⟩⟩⟩, ?_⟩
  refine k _ ?_ ?_ ?_ ?_ ?_ ?_ ?_ ?_ ?_ ?_ ?_ ?_ ?_ ?_ ?_ ?_
  · exact fun j hj hn => (hd_keep hB' (Nat.lt_of_lt_of_le hj (by decide +kernel)) (by simp; omega)).trans (hF j (by omega))
  · exact hd_gi (x := .inl (.int 0)) (by decide +kernel) rfl
  · exact hd_gi (x := .inl (.int 0)) (by decide +kernel) rfl
  · exact hd_gi (x := .inl (.int 0)) (by decide +kernel) rfl
  · exact hd_gi (x := .inl (.int 0)) (by decide +kernel) rfl
  · exact hd_gi (x := .inr (.inl 69)) (by decide +kernel) t69
  · exact hd_gi (x := .inl (.int 0)) (by decide +kernel) rfl
  · exact hd_gi (x := .inr (.inl 111)) (by decide +kernel) t111
  · exact hd_gi (x := .inr (.inl 112)) (by decide +kernel) t112
  · exact hd_ga (a := .inr (.inl 70)) (by decide +kernel) t70
  · exact hd_ga (a := .inr (.inl 71)) (by decide +kernel) t71
  · exact hd_ga (a := .inr (.inl 72)) (by decide +kernel) t72
  · exact hd_ga (a := .inr (.inl 73)) (by decide +kernel) t73
  · exact hd_ga (a := .inr (.inl 74)) (by decide +kernel) t74
  · exact hd_ga (a := .inr (.inl 107)) (by decide +kernel) t107
  · exact hd_ga (a := .inr (.inl 110)) (by decide +kernel) t110
theorem re_112_p0 {Ls : Nat} {xs : Nat → Int32} {d : Nat} {Q : Option Value → jm_h → Prop} (hd : 3 ≤ d) (F : Nat → sy_d) (X1 X2 : List jm_c) (hB : iv_in F iv_B4)
    (h0 : (sy_i F 6).toInt ≠ 0)
    (h1 : 0 < (sy_i F 6).toInt)
    (h2 : 0 < (sy_i F 6).toInt)
    (k : ∀ F1 : Nat → sy_d, (∀ j, j < 69 → j ≠ 10 → F1 j = F j) → F1 10 = .inl (.int (sy_i F 7)) → Q (some (.int (sy_i F 6))) (sy_dh F1 X1 X2 (iv_H 4))) :
    hd_W Ls xs d jm_M150 Q (112, sy_dL F [some (.inl (.ref 1000)), none], sy_dS F [], sy_dh F X1 X2 (iv_H 4), 0, 0) := by
  refine hd_ret (s := 4) (nv := 69) (v := some (.inr (.inl 6))) (uh := hd_ov (iv_id 0 iv_B4) [(10, .inl (.inr (.inl 7)))]) (f := true) (sp := [128, 200]) (d0 := 2) (O := [true, false, false]) (T := []) (P := [(1, .inr (.inl 6), .inl (.int 0)), (5, .inr (.inl 6), .inl (.int 0)), (5, .inr (.inl 6), .inl (.int 0))]) jm_ok150 (by decide +kernel) (by decide +kernel) hd F X1 X2 (fun F' hF hs => ?_)
  have b6 := hd_b (F := F) (F' := F') (k := 6) (hF 6 (by decide))
  have b7 := hd_b (F := F) (F' := F') (k := 7) (hF 7 (by decide))
  have hB' : iv_in F' iv_B4 := iv_in_eq hB (fun j hj => hF j (Nat.lt_of_lt_of_le hj (by decide +kernel)))
  have hk := k (sy_cm F' (hd_ov (iv_id 0 iv_B4) [(10, .inl (.inr (.inl 7)))] ++ [])) (fun j hj hn => (hd_keep hB' (Nat.lt_of_lt_of_le hj (by decide +kernel)) (by simp; omega)).trans (hF j (by omega))) (hd_gi (x := .inr (.inl 7)) (by decide +kernel) b7)
  refine ⟨List.forall_mem_cons.mpr ⟨hd_p1 b6 rfl (by have hc : ((0) : Int32).toInt = 0 := (by decide); omega), List.forall_mem_cons.mpr ⟨hd_p5 b6 rfl (by have hc : ((0) : Int32).toInt = 0 := (by decide); omega), List.forall_mem_cons.mpr ⟨hd_p5 b6 rfl (by have hc : ((0) : Int32).toInt = 0 := (by decide); omega), fun _ h => absurd h List.not_mem_nil⟩⟩⟩, ?_⟩
  show Q (some (sy_dv F' (.inr (.inl 6)))) _
  rw [b6]
  exact hk
theorem re_112_p1 {Ls : Nat} {xs : Nat → Int32} {d : Nat} {Q : Option Value → jm_h → Prop} (hd : 3 ≤ d) (F : Nat → sy_d) (X1 X2 : List jm_c) (hB : iv_in F iv_B4)
    (h0 : (sy_i F 6).toInt = 0)
    (h1 : (sy_i F 6).toInt = 0)
    (h2 : 0 ≤ (sy_i F 4).toInt ∧ (sy_i F 4).toInt < 403)
    (h3 : ((sy_ai F 25).getD (sy_i F 4).toNatClampNeg 0).toInt ≠ 0)
    (k : ∀ F1 : Nat → sy_d, (∀ j, j < 69 → True → F1 j = F j) → hd_W Ls xs d jm_M150 Q (128, sy_dL F1 [some (.inl (.ref 1000)), none], sy_dS F1 [.inl (.ref 1000)], sy_dh F1 X1 X2 (iv_H 4), 0, 0)) :
    hd_W Ls xs d jm_M150 Q (112, sy_dL F [some (.inl (.ref 1000)), none], sy_dS F [], sy_dh F X1 X2 (iv_H 4), 0, 0) := by
  refine hd_run (s := 4) (nv := 69) (pc := 128) (L := [some (.inl (.ref 1000)), none]) (S := [.inl (.ref 1000)]) (uh := hd_ov (iv_id 0 iv_B4) []) (ul := []) (f := true) (sp := [128, 200]) (d0 := 2) (O := [false, false, true]) (T := [(30, [.inr (.inl 4)], [.inr (.inl 25)])]) (P := [(0, .inr (.inl 6), .inl (.int 0)), (0, .inr (.inl 6), .inl (.int 0)), (6, .inr (.inl 4), .inl (.ref 403)), (1, .inr (.inl 69), .inl (.int 0))]) jm_ok150 (by decide +kernel) (by decide +kernel) hd F X1 X2 (fun F' hF hs => ?_)
  have b6 := hd_b (F := F) (F' := F') (k := 6) (hF 6 (by decide))
  have b4 := hd_b (F := F) (F' := F') (k := 4) (hF 4 (by decide))
  have a25 := hd_ba (F := F) (F' := F') (k := 25) (hF 25 (by decide))
  have t69 : sy_dv F' (.inr (.inl 69)) = .int ((sy_ai F 25).getD (sy_i F 4).toNatClampNeg 0) := hd_rd (hs 0 _ rfl) b4 a25
  have hB' : iv_in F' iv_B4 := iv_in_eq hB (fun j hj => hF j (Nat.lt_of_lt_of_le hj (by decide +kernel)))
  refine ⟨List.forall_mem_cons.mpr ⟨hd_p0 b6 rfl (by have hc : ((0) : Int32).toInt = 0 := (by decide); omega), List.forall_mem_cons.mpr ⟨hd_p0 b6 rfl (by have hc : ((0) : Int32).toInt = 0 := (by decide); omega), List.forall_mem_cons.mpr ⟨hd_pb b4 (by first | exact h2 | exact h2), List.forall_mem_cons.mpr ⟨hd_p1 t69 rfl (by have hc : ((0) : Int32).toInt = 0 := (by decide); omega), fun _ h => absurd h List.not_mem_nil⟩⟩⟩⟩, ?_⟩
  refine k _ ?_
  · exact fun j hj _ => (hd_keep hB' (Nat.lt_of_lt_of_le hj (by decide +kernel)) (by simp)).trans (hF j (by omega))
theorem re_112_p2 {Ls : Nat} {xs : Nat → Int32} {d : Nat} {Q : Option Value → jm_h → Prop} (hd : 3 ≤ d) (F : Nat → sy_d) (X1 X2 : List jm_c) (hB : iv_in F iv_B4)
    (h0 : (sy_i F 6).toInt = 0)
    (h1 : (sy_i F 6).toInt = 0)
    (h2 : 0 ≤ (sy_i F 4).toInt ∧ (sy_i F 4).toInt < 403)
    (h3 : ((sy_ai F 25).getD (sy_i F 4).toNatClampNeg 0).toInt = 0)
    (h4 : (sy_i F 6).toInt ≤ 0)
    (h5 : (sy_i F 8).toInt ≤ 0)
    (h6 : (sy_i F 6).toInt ≤ 0)
    (h7 : (sy_i F 8).toInt ≤ 0)
    (k : ∀ F1 : Nat → sy_d, (∀ j, j < 69 → j ≠ 10 ∧ j ≠ 11 → F1 j = F j) → F1 10 = .inl (.int (((-1) : Int32))) → F1 11 = .inl (.int (sy_i F 12)) → hd_W Ls xs d jm_M150 Q (200, sy_dL F1 [some (.inl (.ref 1000)), none], sy_dS F1 [.inl (.ref 1000)], sy_dh F1 X1 X2 (iv_H 4), 0, 0)) :
    hd_W Ls xs d jm_M150 Q (112, sy_dL F [some (.inl (.ref 1000)), none], sy_dS F [], sy_dh F X1 X2 (iv_H 4), 0, 0) := by
  refine hd_run (s := 4) (nv := 69) (pc := 200) (L := [some (.inl (.ref 1000)), none]) (S := [.inl (.ref 1000)]) (uh := hd_ov (iv_id 0 iv_B4) [(10, .inl (.inl (.int (-1)))), (11, .inl (.inr (.inl 12)))]) (ul := []) (f := true) (sp := [128, 200]) (d0 := 2) (O := [false, false, false, true, true, true, true]) (T := [(30, [.inr (.inl 4)], [.inr (.inl 25)])]) (P := [(0, .inr (.inl 6), .inl (.int 0)), (0, .inr (.inl 6), .inl (.int 0)), (6, .inr (.inl 4), .inl (.ref 403)), (0, .inr (.inl 69), .inl (.int 0)), (4, .inr (.inl 6), .inl (.int 0)), (4, .inr (.inl 8), .inl (.int 0)), (4, .inr (.inl 6), .inl (.int 0)), (4, .inr (.inl 8), .inl (.int 0))]) jm_ok150 (by decide +kernel) (by decide +kernel) hd F X1 X2 (fun F' hF hs => ?_)
  have b6 := hd_b (F := F) (F' := F') (k := 6) (hF 6 (by decide))
  have b4 := hd_b (F := F) (F' := F') (k := 4) (hF 4 (by decide))
  have a25 := hd_ba (F := F) (F' := F') (k := 25) (hF 25 (by decide))
  have t69 : sy_dv F' (.inr (.inl 69)) = .int ((sy_ai F 25).getD (sy_i F 4).toNatClampNeg 0) := hd_rd (hs 0 _ rfl) b4 a25
  have b8 := hd_b (F := F) (F' := F') (k := 8) (hF 8 (by decide))
  have b12 := hd_b (F := F) (F' := F') (k := 12) (hF 12 (by decide))
  have hB' : iv_in F' iv_B4 := iv_in_eq hB (fun j hj => hF j (Nat.lt_of_lt_of_le hj (by decide +kernel)))
  refine ⟨List.forall_mem_cons.mpr ⟨hd_p0 b6 rfl (by have hc : ((0) : Int32).toInt = 0 := (by decide); omega), List.forall_mem_cons.mpr ⟨hd_p0 b6 rfl (by have hc : ((0) : Int32).toInt = 0 := (by decide); omega), List.forall_mem_cons.mpr ⟨hd_pb b4 (by first | exact h2 | exact h2), List.forall_mem_cons.mpr ⟨hd_p0 t69 rfl (by have hc : ((0) : Int32).toInt = 0 := (by decide); omega), List.forall_mem_cons.mpr ⟨hd_p4 b6 rfl (by have hc : ((0) : Int32).toInt = 0 := (by decide); omega), List.forall_mem_cons.mpr ⟨hd_p4 b8 rfl (by have hc : ((0) : Int32).toInt = 0 := (by decide); omega), List.forall_mem_cons.mpr ⟨hd_p4 b6 rfl (by have hc : ((0) : Int32).toInt = 0 := (by decide); omega), List.forall_mem_cons.mpr ⟨hd_p4 b8 rfl (by have hc : ((0) : Int32).toInt = 0 := (by decide); omega), fun _ h => absurd h List.not_mem_nil⟩⟩⟩⟩⟩⟩⟩⟩, ?_⟩
  refine k _ ?_ ?_ ?_
  · exact fun j hj hn => (hd_keep hB' (Nat.lt_of_lt_of_le hj (by decide +kernel)) (by simp; omega)).trans (hF j (by omega))
  · exact hd_gi (x := .inl (.int (-1))) (by decide +kernel) rfl
  · exact hd_gi (x := .inr (.inl 12)) (by decide +kernel) b12
theorem re_112_p3 {Ls : Nat} {xs : Nat → Int32} {d : Nat} {Q : Option Value → jm_h → Prop} (hd : 3 ≤ d) (F : Nat → sy_d) (X1 X2 : List jm_c) (hB : iv_in F iv_B4)
    (h0 : (sy_i F 6).toInt = 0)
    (h1 : (sy_i F 6).toInt = 0)
    (h2 : 0 ≤ (sy_i F 4).toInt ∧ (sy_i F 4).toInt < 403)
    (h3 : ((sy_ai F 25).getD (sy_i F 4).toNatClampNeg 0).toInt = 0)
    (h4 : (sy_i F 6).toInt ≤ 0)
    (h5 : 0 < (sy_i F 8).toInt)
    (h6 : (sy_i F 6).toInt ≤ 0)
    (h7 : 0 < (sy_i F 8).toInt)
    (k : ∀ F1 : Nat → sy_d, (∀ j, j < 69 → j ≠ 10 → F1 j = F j) → F1 10 = .inl (.int (sy_i F 9)) → Q (some (.int (sy_i F 8))) (sy_dh F1 X1 X2 (iv_H 4))) :
    hd_W Ls xs d jm_M150 Q (112, sy_dL F [some (.inl (.ref 1000)), none], sy_dS F [], sy_dh F X1 X2 (iv_H 4), 0, 0) := by
  refine hd_ret (s := 4) (nv := 69) (v := some (.inr (.inl 8))) (uh := hd_ov (iv_id 0 iv_B4) [(10, .inl (.inr (.inl 9)))]) (f := true) (sp := [128, 200]) (d0 := 2) (O := [false, false, false, true, false, true, false]) (T := [(30, [.inr (.inl 4)], [.inr (.inl 25)])]) (P := [(0, .inr (.inl 6), .inl (.int 0)), (0, .inr (.inl 6), .inl (.int 0)), (6, .inr (.inl 4), .inl (.ref 403)), (0, .inr (.inl 69), .inl (.int 0)), (4, .inr (.inl 6), .inl (.int 0)), (5, .inr (.inl 8), .inl (.int 0)), (4, .inr (.inl 6), .inl (.int 0)), (5, .inr (.inl 8), .inl (.int 0))]) jm_ok150 (by decide +kernel) (by decide +kernel) hd F X1 X2 (fun F' hF hs => ?_)
  have b6 := hd_b (F := F) (F' := F') (k := 6) (hF 6 (by decide))
  have b4 := hd_b (F := F) (F' := F') (k := 4) (hF 4 (by decide))
  have a25 := hd_ba (F := F) (F' := F') (k := 25) (hF 25 (by decide))
  have t69 : sy_dv F' (.inr (.inl 69)) = .int ((sy_ai F 25).getD (sy_i F 4).toNatClampNeg 0) := hd_rd (hs 0 _ rfl) b4 a25
  have b8 := hd_b (F := F) (F' := F') (k := 8) (hF 8 (by decide))
  have b9 := hd_b (F := F) (F' := F') (k := 9) (hF 9 (by decide))
  have hB' : iv_in F' iv_B4 := iv_in_eq hB (fun j hj => hF j (Nat.lt_of_lt_of_le hj (by decide +kernel)))
  have hk := k (sy_cm F' (hd_ov (iv_id 0 iv_B4) [(10, .inl (.inr (.inl 9)))] ++ [])) (fun j hj hn => (hd_keep hB' (Nat.lt_of_lt_of_le hj (by decide +kernel)) (by simp; omega)).trans (hF j (by omega))) (hd_gi (x := .inr (.inl 9)) (by decide +kernel) b9)
  refine ⟨List.forall_mem_cons.mpr ⟨hd_p0 b6 rfl (by have hc : ((0) : Int32).toInt = 0 := (by decide); omega), List.forall_mem_cons.mpr ⟨hd_p0 b6 rfl (by have hc : ((0) : Int32).toInt = 0 := (by decide); omega), List.forall_mem_cons.mpr ⟨hd_pb b4 (by first | exact h2 | exact h2), List.forall_mem_cons.mpr ⟨hd_p0 t69 rfl (by have hc : ((0) : Int32).toInt = 0 := (by decide); omega), List.forall_mem_cons.mpr ⟨hd_p4 b6 rfl (by have hc : ((0) : Int32).toInt = 0 := (by decide); omega), List.forall_mem_cons.mpr ⟨hd_p5 b8 rfl (by have hc : ((0) : Int32).toInt = 0 := (by decide); omega), List.forall_mem_cons.mpr ⟨hd_p4 b6 rfl (by have hc : ((0) : Int32).toInt = 0 := (by decide); omega), List.forall_mem_cons.mpr ⟨hd_p5 b8 rfl (by have hc : ((0) : Int32).toInt = 0 := (by decide); omega), fun _ h => absurd h List.not_mem_nil⟩⟩⟩⟩⟩⟩⟩⟩, ?_⟩
  show Q (some (sy_dv F' (.inr (.inl 8)))) _
  rw [b8]
  exact hk
theorem re_131_p0 {Ls : Nat} {xs : Nat → Int32} {d : Nat} {Q : Option Value → jm_h → Prop} (hd : 3 ≤ d) (F : Nat → sy_d) (X1 X2 : List jm_c) (hB : iv_in F iv_B4)
    (k : ∀ F1 : Nat → sy_d, (∀ j, j < 69 → True → F1 j = F j) → hd_W Ls xs d jm_M150 Q (112, sy_dL F1 [some (.inl (.ref 1000)), none], sy_dS F1 [], sy_dh F1 X1 X2 (iv_H 4), 0, 0)) :
    hd_W Ls xs d jm_M150 Q (131, sy_dL F [some (.inl (.ref 1000)), none], sy_dS F [], sy_dh F X1 X2 (iv_H 4), 0, 0) := by
  refine hd_run (s := 4) (nv := 69) (pc := 112) (L := [some (.inl (.ref 1000)), none]) (S := []) (uh := hd_ov (iv_id 0 iv_B4) []) (ul := []) (f := false) (sp := [112]) (d0 := 2) (O := []) (T := []) (P := []) jm_ok150 (by decide +kernel) (by decide +kernel) hd F X1 X2 (fun F' hF hs => ?_)
  have hB' : iv_in F' iv_B4 := iv_in_eq hB (fun j hj => hF j (Nat.lt_of_lt_of_le hj (by decide +kernel)))
  refine ⟨fun _ h => absurd h List.not_mem_nil, ?_⟩
  refine k _ ?_
  · exact fun j hj _ => (hd_keep hB' (Nat.lt_of_lt_of_le hj (by decide +kernel)) (by simp)).trans (hF j (by omega))
theorem re_203_p0 {Ls : Nat} {xs : Nat → Int32} {d : Nat} {Q : Option Value → jm_h → Prop} (hd : 3 ≤ d) (F : Nat → sy_d) (X1 X2 : List jm_c) (hB : iv_in F iv_B4)
    (k : ∀ F1 : Nat → sy_d, (∀ j, j < 69 → True → F1 j = F j) → hd_W Ls xs d jm_M150 Q (204, sy_dL F1 [some (.inl (.ref 1000)), none], sy_dS F1 [.inl (.ref 1000)], sy_dh F1 X1 X2 (iv_H 4), 0, 0)) :
    hd_W Ls xs d jm_M150 Q (203, sy_dL F [some (.inl (.ref 1000)), none], sy_dS F [], sy_dh F X1 X2 (iv_H 4), 0, 0) := by
  refine hd_run (s := 4) (nv := 69) (pc := 204) (L := [some (.inl (.ref 1000)), none]) (S := [.inl (.ref 1000)]) (uh := hd_ov (iv_id 0 iv_B4) []) (ul := []) (f := false) (sp := [204]) (d0 := 2) (O := []) (T := []) (P := []) jm_ok150 (by decide +kernel) (by decide +kernel) hd F X1 X2 (fun F' hF hs => ?_)
  have hB' : iv_in F' iv_B4 := iv_in_eq hB (fun j hj => hF j (Nat.lt_of_lt_of_le hj (by decide +kernel)))
  refine ⟨fun _ h => absurd h List.not_mem_nil, ?_⟩
  refine k _ ?_
  · exact fun j hj _ => (hd_keep hB' (Nat.lt_of_lt_of_le hj (by decide +kernel)) (by simp)).trans (hF j (by omega))
theorem re_207_p0 {Ls : Nat} {xs : Nat → Int32} {d : Nat} {Q : Option Value → jm_h → Prop} (hd : 3 ≤ d) (F : Nat → sy_d) (X1 X2 : List jm_c) (hB : iv_in F iv_B4)
    (k : ∀ F1 : Nat → sy_d, (∀ j, j < 69 → j ≠ 20 ∧ j ≠ 21 ∧ j ≠ 67 → F1 j = F j) → F1 20 = .inl (.int ((0 : Int32))) → F1 21 = .inl (.int ((0 : Int32))) → F1 67 = .inr (.inl (jm_upd (jm_upd (jm_upd (sy_ai F 67) ((0 : Int32)).toNatClampNeg ((0 : Int32))) ((1 : Int32)).toNatClampNeg ((0 : Int32))) ((2 : Int32)).toNatClampNeg ((0 : Int32)))) → Q (some (.int ((0 : Int32)))) (sy_dh F1 X1 X2 (iv_H 4))) :
    hd_W Ls xs d jm_M150 Q (207, sy_dL F [some (.inl (.ref 1000)), none], sy_dS F [], sy_dh F X1 X2 (iv_H 4), 0, 0) := by
  refine hd_ret (s := 4) (nv := 69) (v := some (.inl (.int 0))) (uh := hd_ov (iv_id 0 iv_B4) [(20, .inl (.inl (.int 0))), (21, .inl (.inl (.int 0))), (67, .inr (.inr (.inl 71)))]) (f := false) (sp := []) (d0 := 2) (O := []) (T := [(40, [.inl (.int 0), .inl (.int 0)], [.inr (.inl 67)]), (40, [.inl (.int 1), .inl (.int 0)], [.inr (.inl 69)]), (40, [.inl (.int 2), .inl (.int 0)], [.inr (.inl 70)])]) (P := []) jm_ok150 (by decide +kernel) (by decide +kernel) hd F X1 X2 (fun F' hF hs => ?_)
  have a67 := hd_ba (F := F) (F' := F') (k := 67) (hF 67 (by decide))
  have t69 : sy_da F' (.inr (.inl 69)) = .inl (jm_upd (sy_ai F 67) ((0 : Int32)).toNatClampNeg ((0 : Int32))) := hd_up (hs 0 _ rfl) rfl rfl a67
  have t70 : sy_da F' (.inr (.inl 70)) = .inl (jm_upd (jm_upd (sy_ai F 67) ((0 : Int32)).toNatClampNeg ((0 : Int32))) ((1 : Int32)).toNatClampNeg ((0 : Int32))) := hd_up (hs 1 _ rfl) rfl rfl t69
  have t71 : sy_da F' (.inr (.inl 71)) = .inl (jm_upd (jm_upd (jm_upd (sy_ai F 67) ((0 : Int32)).toNatClampNeg ((0 : Int32))) ((1 : Int32)).toNatClampNeg ((0 : Int32))) ((2 : Int32)).toNatClampNeg ((0 : Int32))) := hd_up (hs 2 _ rfl) rfl rfl t70
  have hB' : iv_in F' iv_B4 := iv_in_eq hB (fun j hj => hF j (Nat.lt_of_lt_of_le hj (by decide +kernel)))
  refine ⟨fun _ h => absurd h List.not_mem_nil, ?_⟩
  refine k _ ?_ ?_ ?_ ?_
  · exact fun j hj hn => (hd_keep hB' (Nat.lt_of_lt_of_le hj (by decide +kernel)) (by simp; omega)).trans (hF j (by omega))
  · exact hd_gi (x := .inl (.int 0)) (by decide +kernel) rfl
  · exact hd_gi (x := .inl (.int 0)) (by decide +kernel) rfl
  · exact hd_ga (a := .inr (.inl 71)) (by decide +kernel) t71
