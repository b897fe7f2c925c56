/-! ===== contracts of the reference, 49 ===== -/
