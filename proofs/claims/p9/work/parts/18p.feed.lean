/-! ===== feed: what it answers ===== -/
def fd_t (t : Int32) : Int32 := if 2000 < t.toInt + 20 then t else t + 20
def fd_v (t : Int32) : Int32 := if 2000 < t.toInt + 20 then -1 else t + 20
