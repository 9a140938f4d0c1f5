/-! ===== a long below 0 ===== -/
theorem yl_neg (a : Int) : -yl a = yl (-a) := (Int64.ofInt_neg a).symm
