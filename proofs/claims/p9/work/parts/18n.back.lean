/-! ===== back: what it answers ===== -/
/-- the bytes behind, the answer -/
def bk_t (t a : Int32) : Int32 := if a.toInt < 0 ∨ t.toInt < a.toInt then t else t - a
def bk_v (t a : Int32) : Int32 := if a.toInt < 0 ∨ t.toInt < a.toInt then -1 else t - a
