/-! ===== rows that hold ===== -/
