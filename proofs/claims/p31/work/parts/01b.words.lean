/-! ===== the words of each class are in the tables ===== -/
/-- the tables' words that hold in every later state too -/
def jm_tbl : List Cond := lw_tbl.filter goodWord
/-- a word of all the tables by its place -/
def jm_lk (i : Nat) : Option Cond := bif Nat.blt i 93 then (k2_sels lw_privs)[i]? else lw_lk (i - 93)
theorem jm_lk_mem {i : Nat} {w : Cond} (h : jm_lk i = some w) : w ∈ lw_tbl := by
  unfold jm_lk at h
  cases h0 : Nat.blt i 93 with
  | true => rw [h0, cond_true] at h; exact List.mem_append_left _ (List.mem_of_getElem? h)
  | false => rw [h0, cond_false] at h; exact List.mem_append_right _ (lw_lk_mem h)
theorem jm_lks : ∀ {is : List Nat} {ws : List Cond}, is.map jm_lk = ws.map some → ∀ w ∈ ws, w ∈ lw_tbl
  | [], [], _, _, h => absurd h List.not_mem_nil
  | [], _ :: _, h, _, _ => by simp at h
  | _ :: _, [], h, _, _ => by simp at h
  | i :: is, v :: ws, h, w, hw => by
    rw [List.map_cons, List.map_cons] at h
    have h1 := (List.cons.inj h).1
    have h2 := (List.cons.inj h).2
    rcases List.mem_cons.mp hw with z | z
    · rw [z]; exact jm_lk_mem h1
    · exact jm_lks h2 w z
theorem jm_tbl_mem {w : Cond} (h : w ∈ lw_tbl) (hg : goodWord w = true) : w ∈ jm_tbl := List.mem_filter.mpr ⟨h, hg⟩
theorem jm_tbl_good {w : Cond} (h : w ∈ jm_tbl) : (w.onTables && w.keeps) = true ∨ ∃ ty, w = .arrayClass ty := good_of_word (List.mem_filter.mp h).2
theorem jm_wi {ws : List Cond} (h : ∀ w ∈ ws, w ∈ lw_tbl) (hg : ws.all goodWord = true) : ∀ w ∈ ws, w ∈ jm_tbl := fun w hw => jm_tbl_mem (h w hw) (List.all_eq_true.mp hg w hw)
theorem wiX0 : ∀ w ∈ u_ws RX0 TX0 1, w ∈ jm_tbl := jm_wi (jm_lks (is := [356]) (by decide +kernel)) (by decide +kernel)
theorem wiX1 : ∀ w ∈ u_ws RX1 TX1 12, w ∈ jm_tbl := jm_wi (jm_lks (is := [425, 427, 429, 431, 433, 435, 437, 439, 441, 443, 445, 447]) (by decide +kernel)) (by decide +kernel)
theorem wiX2 : ∀ w ∈ u_ws RX2 TX2 2, w ∈ jm_tbl := jm_wi (jm_lks (is := [344, 346]) (by decide +kernel)) (by decide +kernel)
theorem wiX3 : ∀ w ∈ u_ws RX3 TX3 4, w ∈ jm_tbl := jm_wi (jm_lks (is := [371, 373, 375, 377]) (by decide +kernel)) (by decide +kernel)
theorem wiX4 : ∀ w ∈ u_ws RX4 TX4 10, w ∈ jm_tbl := jm_wi (jm_lks (is := [313, 315, 317, 319, 321, 323, 325, 327, 329, 331]) (by decide +kernel)) (by decide +kernel)
theorem wiX5 : ∀ w ∈ u_ws RX5 TX5 15, w ∈ jm_tbl := jm_wi (jm_lks (is := [191, 193, 195, 197, 199, 201, 203, 205, 207, 209, 211, 213, 215, 217, 219]) (by decide +kernel)) (by decide +kernel)
theorem wiX6 : ∀ w ∈ u_ws RX6 TX6 4, w ∈ jm_tbl := jm_wi (jm_lks (is := [293, 295, 297, 299]) (by decide +kernel)) (by decide +kernel)
theorem wiX7 : ∀ w ∈ u_ws RX7 TX7 3, w ∈ jm_tbl := jm_wi (jm_lks (is := [477, 479, 481]) (by decide +kernel)) (by decide +kernel)
theorem wiX8 : ∀ w ∈ u_ws RX8 TX8 3, w ∈ jm_tbl := jm_wi (jm_lks (is := [460, 462, 464]) (by decide +kernel)) (by decide +kernel)
theorem wiX9 : ∀ w ∈ u_ws RX9 TX9 15, w ∈ jm_tbl := jm_wi (jm_lks (is := [555, 557, 559, 561, 563, 565, 567, 569, 571, 573, 575, 577, 579, 581, 583]) (by decide +kernel)) (by decide +kernel)
theorem wiX10 : ∀ w ∈ u_ws RX10 TX10 69, w ∈ jm_tbl := jm_wi (jm_lks (is := [1143, 1145, 1147, 1149, 1151, 1153, 1155, 1157, 1159, 1161, 1163, 1165, 1167, 1169, 1171, 1173, 1175, 1177, 1179, 1181, 1183, 1185, 1187, 1189, 1191, 1193, 1195, 1197, 1199, 1201, 1203, 1205, 1207, 1209, 1211, 1213, 1215, 1217, 1219, 1221, 1223, 1225, 1227, 1229, 1231, 1233, 1235, 1237, 1239, 1241, 1243, 1245, 1247, 1249, 1251, 1253, 1255, 1257, 1259, 1261, 1263, 1265, 1267, 1269, 1271, 1273, 1275, 1277, 1279]) (by decide +kernel)) (by decide +kernel)
