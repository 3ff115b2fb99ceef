/-! ===== the words of each class are in the tables ===== -/
/-- the tables' words that hold in every later state too -/
def jm_tbl : List Cond := lw_tbl.filter goodWord
theorem jm_tbl_mem {w : Cond} (h : w ∈ lw_tbl) (hg : goodWord w = true) : w ∈ jm_tbl := List.mem_filter.mpr ⟨h, hg⟩
theorem jm_tbl_good {w : Cond} (h : w ∈ jm_tbl) : (w.onTables && w.keeps) = true ∨ ∃ ty, w = .arrayClass ty := good_of_word (List.mem_filter.mp h).2
theorem jm_wi {ws : List Cond} (h : ∀ w ∈ ws, w ∈ lw_tbl) (hg : ws.all goodWord = true) : ∀ w ∈ ws, w ∈ jm_tbl := fun w hw => jm_tbl_mem (h w hw) (List.all_eq_true.mp hg w hw)
theorem wiX0 : ∀ w ∈ u_ws RX0 TX0 1, w ∈ jm_tbl := jm_wi (by decide +kernel) (by decide +kernel)
theorem wiX1 : ∀ w ∈ u_ws RX1 TX1 12, w ∈ jm_tbl := jm_wi (by decide +kernel) (by decide +kernel)
theorem wiX2 : ∀ w ∈ u_ws RX2 TX2 2, w ∈ jm_tbl := jm_wi (by decide +kernel) (by decide +kernel)
theorem wiX3 : ∀ w ∈ u_ws RX3 TX3 4, w ∈ jm_tbl := jm_wi (by decide +kernel) (by decide +kernel)
theorem wiX4 : ∀ w ∈ u_ws RX4 TX4 10, w ∈ jm_tbl := jm_wi (by decide +kernel) (by decide +kernel)
theorem wiX5 : ∀ w ∈ u_ws RX5 TX5 15, w ∈ jm_tbl := jm_wi (by decide +kernel) (by decide +kernel)
theorem wiX6 : ∀ w ∈ u_ws RX6 TX6 4, w ∈ jm_tbl := jm_wi (by decide +kernel) (by decide +kernel)
theorem wiX7 : ∀ w ∈ u_ws RX7 TX7 3, w ∈ jm_tbl := jm_wi (by decide +kernel) (by decide +kernel)
theorem wiX8 : ∀ w ∈ u_ws RX8 TX8 3, w ∈ jm_tbl := jm_wi (by decide +kernel) (by decide +kernel)
theorem wiX9 : ∀ w ∈ u_ws RX9 TX9 15, w ∈ jm_tbl := jm_wi (by decide +kernel) (by decide +kernel)
theorem wiX10 : ∀ w ∈ u_ws RX10 TX10 69, w ∈ jm_tbl := jm_wi (by decide +kernel) (by decide +kernel)
