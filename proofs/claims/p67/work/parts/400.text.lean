/-! ===== texts ===== -/
def f_Zone_ctor (O : Nat → Option va_E) (f : Nat) (v0 : Nat) (M : xM) : Option (Unit × xM) :=
  xcl (nAJ M 0 4) fun x1 M1 =>
  (wJ M1 x1 0 3).bind fun M2 =>
  (wJ M2 x1 1 5).bind fun M3 =>
  (wJ M3 x1 2 6).bind fun M4 =>
  (wJ M4 x1 3 120).bind fun M5 =>
  (pR M5 v0 11 2 (some x1)).bind fun M6 =>
  xcl (nAJ M6 0 4) fun x2 M7 =>
  (wJ M7 x2 0 10).bind fun M8 =>
  (wJ M8 x2 1 5).bind fun M9 =>
  (wJ M9 x2 2 6).bind fun M10 =>
  (wJ M10 x2 3 120).bind fun M11 =>
  (pR M11 v0 11 3 (some x2)).bind fun M12 =>
  some ((), M12)
set_option maxRecDepth 20000 in
theorem k_f_Zone_ctor (O : Nat → Option va_E) (f d : Nat) (v0 : Nat) (M : xM) : xZ oU O (d + 0) 2 0 [(0, .ref v0)] [] M (f_Zone_ctor O f v0 M) := by
  unfold f_Zone_ctor
  refine xZ.adv (me := xm2) hP_2 1 (pc' := 1) (lv' := [(0, .ref v0)]) (st' := [.ref v0]) rfl ?_
  refine xZ.obj (me := xm2) hP_2 rfl (Nat.le_of_ble_eq_true rfl) ?_
  refine xZ.adv (me := xm2) hP_2 2 (pc' := 6) (lv' := [(0, .ref v0)]) (st' := [.int (4 : Int32), .ref v0]) rfl ?_
  refine xZ.eqs (lv2 := [(0, .ref v0)]) (st2 := [.int (yw 4), .ref v0]) rfl (by simp only [yl_lit, yL_lit, yw_add, yw_sub, yw_mul, yw_neg, yl_add, yl_sub, yl_mul, cj_and, cj_or, cj_xor, cj_shl, cj_shr, cj_ushr, cj_div, cj_i2c, cj_i2b, cj_dc, ck_and, ck_or, ck_xor, ck_shl, ck_shr, ck_ushr, ck_i2l, ck_l2i, ck_cmp]) ?_
  refine xZ.k_nAJ (me := xm2) hP_2 rfl rfl (by decide) (fun x1 M1 => ?_)
  refine xZ.adv (me := xm2) hP_2 3 (pc' := 11) (lv' := [(0, .ref v0)]) (st' := [.int (3 : Int32), .int (0 : Int32), .ref x1, .ref x1, .ref v0]) rfl ?_
  refine xZ.eqs (lv2 := [(0, .ref v0)]) (st2 := [.int (yw 3), .int (yw 0), .ref x1, .ref x1, .ref v0]) rfl (by simp only [yl_lit, yL_lit, yw_add, yw_sub, yw_mul, yw_neg, yl_add, yl_sub, yl_mul, cj_and, cj_or, cj_xor, cj_shl, cj_shr, cj_ushr, cj_div, cj_i2c, cj_i2b, cj_dc, ck_and, ck_or, ck_xor, ck_shl, ck_shr, ck_ushr, ck_i2l, ck_l2i, ck_cmp]) ?_
  refine xZ.k_wJ (me := xm2) hP_2 rfl (fun M2 => ?_)
  refine xZ.adv (me := xm2) hP_2 3 (pc' := 15) (lv' := [(0, .ref v0)]) (st' := [.int (5 : Int32), .int (1 : Int32), .ref x1, .ref x1, .ref v0]) rfl ?_
  refine xZ.eqs (lv2 := [(0, .ref v0)]) (st2 := [.int (yw 5), .int (yw 1), .ref x1, .ref x1, .ref v0]) rfl (by simp only [yl_lit, yL_lit, yw_add, yw_sub, yw_mul, yw_neg, yl_add, yl_sub, yl_mul, cj_and, cj_or, cj_xor, cj_shl, cj_shr, cj_ushr, cj_div, cj_i2c, cj_i2b, cj_dc, ck_and, ck_or, ck_xor, ck_shl, ck_shr, ck_ushr, ck_i2l, ck_l2i, ck_cmp]) ?_
  refine xZ.k_wJ (me := xm2) hP_2 rfl (fun M3 => ?_)
  refine xZ.adv (me := xm2) hP_2 3 (pc' := 20) (lv' := [(0, .ref v0)]) (st' := [.int (6 : Int32), .int (2 : Int32), .ref x1, .ref x1, .ref v0]) rfl ?_
  refine xZ.eqs (lv2 := [(0, .ref v0)]) (st2 := [.int (yw 6), .int (yw 2), .ref x1, .ref x1, .ref v0]) rfl (by simp only [yl_lit, yL_lit, yw_add, yw_sub, yw_mul, yw_neg, yl_add, yl_sub, yl_mul, cj_and, cj_or, cj_xor, cj_shl, cj_shr, cj_ushr, cj_div, cj_i2c, cj_i2b, cj_dc, ck_and, ck_or, ck_xor, ck_shl, ck_shr, ck_ushr, ck_i2l, ck_l2i, ck_cmp]) ?_
  refine xZ.k_wJ (me := xm2) hP_2 rfl (fun M4 => ?_)
  refine xZ.adv (me := xm2) hP_2 3 (pc' := 25) (lv' := [(0, .ref v0)]) (st' := [.int (120 : Int32), .int (3 : Int32), .ref x1, .ref x1, .ref v0]) rfl ?_
  refine xZ.eqs (lv2 := [(0, .ref v0)]) (st2 := [.int (yw 120), .int (yw 3), .ref x1, .ref x1, .ref v0]) rfl (by simp only [yl_lit, yL_lit, yw_add, yw_sub, yw_mul, yw_neg, yl_add, yl_sub, yl_mul, cj_and, cj_or, cj_xor, cj_shl, cj_shr, cj_ushr, cj_div, cj_i2c, cj_i2b, cj_dc, ck_and, ck_or, ck_xor, ck_shl, ck_shr, ck_ushr, ck_i2l, ck_l2i, ck_cmp]) ?_
  refine xZ.k_wJ (me := xm2) hP_2 rfl (fun M5 => ?_)
  refine xZ.k_pR (x := (some x1)) (me := xm2) hP_2 rfl (fun M6 => ?_)
  refine xZ.adv (me := xm2) hP_2 2 (pc' := 31) (lv' := [(0, .ref v0)]) (st' := [.int (4 : Int32), .ref v0]) rfl ?_
  refine xZ.eqs (lv2 := [(0, .ref v0)]) (st2 := [.int (yw 4), .ref v0]) rfl (by simp only [yl_lit, yL_lit, yw_add, yw_sub, yw_mul, yw_neg, yl_add, yl_sub, yl_mul, cj_and, cj_or, cj_xor, cj_shl, cj_shr, cj_ushr, cj_div, cj_i2c, cj_i2b, cj_dc, ck_and, ck_or, ck_xor, ck_shl, ck_shr, ck_ushr, ck_i2l, ck_l2i, ck_cmp]) ?_
  refine xZ.k_nAJ (me := xm2) hP_2 rfl rfl (by decide) (fun x2 M7 => ?_)
  refine xZ.adv (me := xm2) hP_2 3 (pc' := 37) (lv' := [(0, .ref v0)]) (st' := [.int (10 : Int32), .int (0 : Int32), .ref x2, .ref x2, .ref v0]) rfl ?_
  refine xZ.eqs (lv2 := [(0, .ref v0)]) (st2 := [.int (yw 10), .int (yw 0), .ref x2, .ref x2, .ref v0]) rfl (by simp only [yl_lit, yL_lit, yw_add, yw_sub, yw_mul, yw_neg, yl_add, yl_sub, yl_mul, cj_and, cj_or, cj_xor, cj_shl, cj_shr, cj_ushr, cj_div, cj_i2c, cj_i2b, cj_dc, ck_and, ck_or, ck_xor, ck_shl, ck_shr, ck_ushr, ck_i2l, ck_l2i, ck_cmp]) ?_
  refine xZ.k_wJ (me := xm2) hP_2 rfl (fun M8 => ?_)
  refine xZ.adv (me := xm2) hP_2 3 (pc' := 41) (lv' := [(0, .ref v0)]) (st' := [.int (5 : Int32), .int (1 : Int32), .ref x2, .ref x2, .ref v0]) rfl ?_
  refine xZ.eqs (lv2 := [(0, .ref v0)]) (st2 := [.int (yw 5), .int (yw 1), .ref x2, .ref x2, .ref v0]) rfl (by simp only [yl_lit, yL_lit, yw_add, yw_sub, yw_mul, yw_neg, yl_add, yl_sub, yl_mul, cj_and, cj_or, cj_xor, cj_shl, cj_shr, cj_ushr, cj_div, cj_i2c, cj_i2b, cj_dc, ck_and, ck_or, ck_xor, ck_shl, ck_shr, ck_ushr, ck_i2l, ck_l2i, ck_cmp]) ?_
  refine xZ.k_wJ (me := xm2) hP_2 rfl (fun M9 => ?_)
  refine xZ.adv (me := xm2) hP_2 3 (pc' := 46) (lv' := [(0, .ref v0)]) (st' := [.int (6 : Int32), .int (2 : Int32), .ref x2, .ref x2, .ref v0]) rfl ?_
  refine xZ.eqs (lv2 := [(0, .ref v0)]) (st2 := [.int (yw 6), .int (yw 2), .ref x2, .ref x2, .ref v0]) rfl (by simp only [yl_lit, yL_lit, yw_add, yw_sub, yw_mul, yw_neg, yl_add, yl_sub, yl_mul, cj_and, cj_or, cj_xor, cj_shl, cj_shr, cj_ushr, cj_div, cj_i2c, cj_i2b, cj_dc, ck_and, ck_or, ck_xor, ck_shl, ck_shr, ck_ushr, ck_i2l, ck_l2i, ck_cmp]) ?_
  refine xZ.k_wJ (me := xm2) hP_2 rfl (fun M10 => ?_)
  refine xZ.adv (me := xm2) hP_2 3 (pc' := 51) (lv' := [(0, .ref v0)]) (st' := [.int (120 : Int32), .int (3 : Int32), .ref x2, .ref x2, .ref v0]) rfl ?_
  refine xZ.eqs (lv2 := [(0, .ref v0)]) (st2 := [.int (yw 120), .int (yw 3), .ref x2, .ref x2, .ref v0]) rfl (by simp only [yl_lit, yL_lit, yw_add, yw_sub, yw_mul, yw_neg, yl_add, yl_sub, yl_mul, cj_and, cj_or, cj_xor, cj_shl, cj_shr, cj_ushr, cj_div, cj_i2c, cj_i2b, cj_dc, ck_and, ck_or, ck_xor, ck_shl, ck_shr, ck_ushr, ck_i2l, ck_l2i, ck_cmp]) ?_
  refine xZ.k_wJ (me := xm2) hP_2 rfl (fun M11 => ?_)
  refine xZ.k_pR (x := (some x2)) (me := xm2) hP_2 rfl (fun M12 => ?_)
  exact xZ.retu (me := xm2) hP_2 rfl rfl
def f_Person_ctor (O : Nat → Option va_E) (f : Nat) (v0 : Nat) (M : xM) : Option (Unit × xM) :=
  (pJ M v0 6 1 31).bind fun M1 =>
  (pJ M1 v0 6 2 540).bind fun M2 =>
  (pJ M2 v0 6 3 1020).bind fun M3 =>
  some ((), M3)
set_option maxRecDepth 20000 in
theorem k_f_Person_ctor (O : Nat → Option va_E) (f d : Nat) (v0 : Nat) (M : xM) : xZ oU O (d + 0) 3 0 [(0, .ref v0)] [] M (f_Person_ctor O f v0 M) := by
  unfold f_Person_ctor
  refine xZ.adv (me := xm3) hP_3 1 (pc' := 1) (lv' := [(0, .ref v0)]) (st' := [.ref v0]) rfl ?_
  refine xZ.obj (me := xm3) hP_3 rfl (Nat.le_of_ble_eq_true rfl) ?_
  refine xZ.adv (me := xm3) hP_3 2 (pc' := 7) (lv' := [(0, .ref v0)]) (st' := [.int (31 : Int32), .ref v0]) rfl ?_
  refine xZ.eqs (lv2 := [(0, .ref v0)]) (st2 := [.int (yw 31), .ref v0]) rfl (by simp only [yl_lit, yL_lit, yw_add, yw_sub, yw_mul, yw_neg, yl_add, yl_sub, yl_mul, cj_and, cj_or, cj_xor, cj_shl, cj_shr, cj_ushr, cj_div, cj_i2c, cj_i2b, cj_dc, ck_and, ck_or, ck_xor, ck_shl, ck_shr, ck_ushr, ck_i2l, ck_l2i, ck_cmp]) ?_
  refine xZ.k_pJ (me := xm3) hP_3 rfl (fun M1 => ?_)
  refine xZ.adv (me := xm3) hP_3 2 (pc' := 14) (lv' := [(0, .ref v0)]) (st' := [.int (540 : Int32), .ref v0]) rfl ?_
  refine xZ.eqs (lv2 := [(0, .ref v0)]) (st2 := [.int (yw 540), .ref v0]) rfl (by simp only [yl_lit, yL_lit, yw_add, yw_sub, yw_mul, yw_neg, yl_add, yl_sub, yl_mul, cj_and, cj_or, cj_xor, cj_shl, cj_shr, cj_ushr, cj_div, cj_i2c, cj_i2b, cj_dc, ck_and, ck_or, ck_xor, ck_shl, ck_shr, ck_ushr, ck_i2l, ck_l2i, ck_cmp]) ?_
  refine xZ.k_pJ (me := xm3) hP_3 rfl (fun M2 => ?_)
  refine xZ.adv (me := xm3) hP_3 2 (pc' := 21) (lv' := [(0, .ref v0)]) (st' := [.int (1020 : Int32), .ref v0]) rfl ?_
  refine xZ.eqs (lv2 := [(0, .ref v0)]) (st2 := [.int (yw 1020), .ref v0]) rfl (by simp only [yl_lit, yL_lit, yw_add, yw_sub, yw_mul, yw_neg, yl_add, yl_sub, yl_mul, cj_and, cj_or, cj_xor, cj_shl, cj_shr, cj_ushr, cj_div, cj_i2c, cj_i2b, cj_dc, ck_and, ck_or, ck_xor, ck_shl, ck_shr, ck_ushr, ck_i2l, ck_l2i, ck_cmp]) ?_
  refine xZ.k_pJ (me := xm3) hP_3 rfl (fun M3 => ?_)
  exact xZ.retu (me := xm3) hP_3 rfl rfl
def f_Rule_ctor (O : Nat → Option va_E) (f : Nat) (v0 : Nat) (M : xM) : Option (Unit × xM) :=
  (pJ M v0 9 0 10).bind fun M1 =>
  (pJ M1 v0 9 7 146000).bind fun M2 =>
  some ((), M2)
set_option maxRecDepth 20000 in
theorem k_f_Rule_ctor (O : Nat → Option va_E) (f d : Nat) (v0 : Nat) (M : xM) : xZ oU O (d + 0) 5 0 [(0, .ref v0)] [] M (f_Rule_ctor O f v0 M) := by
  unfold f_Rule_ctor
  refine xZ.adv (me := xm5) hP_5 1 (pc' := 1) (lv' := [(0, .ref v0)]) (st' := [.ref v0]) rfl ?_
  refine xZ.obj (me := xm5) hP_5 rfl (Nat.le_of_ble_eq_true rfl) ?_
  refine xZ.adv (me := xm5) hP_5 2 (pc' := 7) (lv' := [(0, .ref v0)]) (st' := [.int (10 : Int32), .ref v0]) rfl ?_
  refine xZ.eqs (lv2 := [(0, .ref v0)]) (st2 := [.int (yw 10), .ref v0]) rfl (by simp only [yl_lit, yL_lit, yw_add, yw_sub, yw_mul, yw_neg, yl_add, yl_sub, yl_mul, cj_and, cj_or, cj_xor, cj_shl, cj_shr, cj_ushr, cj_div, cj_i2c, cj_i2b, cj_dc, ck_and, ck_or, ck_xor, ck_shl, ck_shr, ck_ushr, ck_i2l, ck_l2i, ck_cmp]) ?_
  refine xZ.k_pJ (me := xm5) hP_5 rfl (fun M1 => ?_)
  refine xZ.adv (me := xm5) hP_5 2 (pc' := 13) (lv' := [(0, .ref v0)]) (st' := [.int (146000 : Int32), .ref v0]) rfl ?_
  refine xZ.eqs (lv2 := [(0, .ref v0)]) (st2 := [.int (yw 146000), .ref v0]) rfl (by simp only [yl_lit, yL_lit, yw_add, yw_sub, yw_mul, yw_neg, yl_add, yl_sub, yl_mul, cj_and, cj_or, cj_xor, cj_shl, cj_shr, cj_ushr, cj_div, cj_i2c, cj_i2b, cj_dc, ck_and, ck_or, ck_xor, ck_shl, ck_shr, ck_ushr, ck_i2l, ck_l2i, ck_cmp]) ?_
  refine xZ.k_pJ (me := xm5) hP_5 rfl (fun M2 => ?_)
  exact xZ.retu (me := xm5) hP_5 rfl rfl
def f_Series_ctor (O : Nat → Option va_E) (f : Nat) (v0 : Nat) (M : xM) : Option (Unit × xM) :=
  xcl (nO M 9) fun x1 M1 =>
  xcl (f_Rule_ctor O f x1 M1) fun _ M2 =>
  (pR M2 v0 10 6 (some x1)).bind fun M3 =>
  xcl (nAJ M3 0 10) fun x3 M4 =>
  (pR M4 v0 10 8 (some x3)).bind fun M5 =>
  xcl (nAJ M5 0 10) fun x4 M6 =>
  (pR M6 v0 10 9 (some x4)).bind fun M7 =>
  xcl (nAJ M7 0 8) fun x5 M8 =>
  (pR M8 v0 10 10 (some x5)).bind fun M9 =>
  xcl (nAJ M9 0 8) fun x6 M10 =>
  (pR M10 v0 10 11 (some x6)).bind fun M11 =>
  some ((), M11)
set_option maxRecDepth 20000 in
theorem k_f_Series_ctor (O : Nat → Option va_E) (f d : Nat) (v0 : Nat) (M : xM) : xZ oU O (d + 1) 4 0 [(0, .ref v0)] [] M (f_Series_ctor O f v0 M) := by
  unfold f_Series_ctor
  refine xZ.adv (me := xm4) hP_4 1 (pc' := 1) (lv' := [(0, .ref v0)]) (st' := [.ref v0]) rfl ?_
  refine xZ.obj (me := xm4) hP_4 rfl (Nat.le_of_ble_eq_true rfl) ?_
  refine xZ.adv (me := xm4) hP_4 1 (pc' := 5) (lv' := [(0, .ref v0)]) (st' := [.ref v0]) rfl ?_
  refine xZ.k_nO (me := xm4) hP_4 rfl rfl (fun x1 M1 => ?_)
  refine xZ.adv (me := xm4) hP_4 1 (pc' := 9) (lv' := [(0, .ref v0)]) (st' := [.ref x1, .ref x1, .ref v0]) rfl ?_
  refine xZ.calli (κ := oU) (av := []) (rest := [.ref x1, .ref v0]) (st' := fun _ => [.ref x1, .ref v0]) (k0 := x1) (me := xm4) hP_4 rfl (Or.inl rfl) rfl rfl (Nat.le_of_ble_eq_true rfl) (by decide) hP_5 (Nat.le_of_ble_eq_true rfl) (fun _ => rfl) (k_f_Rule_ctor O f (d + 0) x1 M1) (fun _ M2 => ?_)
  refine xZ.k_pR (x := (some x1)) (me := xm4) hP_4 rfl (fun M3 => ?_)
  refine xZ.adv (me := xm4) hP_4 2 (pc' := 18) (lv' := [(0, .ref v0)]) (st' := [.int (10 : Int32), .ref v0]) rfl ?_
  refine xZ.eqs (lv2 := [(0, .ref v0)]) (st2 := [.int (yw 10), .ref v0]) rfl (by simp only [yl_lit, yL_lit, yw_add, yw_sub, yw_mul, yw_neg, yl_add, yl_sub, yl_mul, cj_and, cj_or, cj_xor, cj_shl, cj_shr, cj_ushr, cj_div, cj_i2c, cj_i2b, cj_dc, ck_and, ck_or, ck_xor, ck_shl, ck_shr, ck_ushr, ck_i2l, ck_l2i, ck_cmp]) ?_
  refine xZ.k_nAJ (me := xm4) hP_4 rfl rfl (by decide) (fun x3 M4 => ?_)
  refine xZ.k_pR (x := (some x3)) (me := xm4) hP_4 rfl (fun M5 => ?_)
  refine xZ.adv (me := xm4) hP_4 2 (pc' := 26) (lv' := [(0, .ref v0)]) (st' := [.int (10 : Int32), .ref v0]) rfl ?_
  refine xZ.eqs (lv2 := [(0, .ref v0)]) (st2 := [.int (yw 10), .ref v0]) rfl (by simp only [yl_lit, yL_lit, yw_add, yw_sub, yw_mul, yw_neg, yl_add, yl_sub, yl_mul, cj_and, cj_or, cj_xor, cj_shl, cj_shr, cj_ushr, cj_div, cj_i2c, cj_i2b, cj_dc, ck_and, ck_or, ck_xor, ck_shl, ck_shr, ck_ushr, ck_i2l, ck_l2i, ck_cmp]) ?_
  refine xZ.k_nAJ (me := xm4) hP_4 rfl rfl (by decide) (fun x4 M6 => ?_)
  refine xZ.k_pR (x := (some x4)) (me := xm4) hP_4 rfl (fun M7 => ?_)
  refine xZ.adv (me := xm4) hP_4 2 (pc' := 34) (lv' := [(0, .ref v0)]) (st' := [.int (8 : Int32), .ref v0]) rfl ?_
  refine xZ.eqs (lv2 := [(0, .ref v0)]) (st2 := [.int (yw 8), .ref v0]) rfl (by simp only [yl_lit, yL_lit, yw_add, yw_sub, yw_mul, yw_neg, yl_add, yl_sub, yl_mul, cj_and, cj_or, cj_xor, cj_shl, cj_shr, cj_ushr, cj_div, cj_i2c, cj_i2b, cj_dc, ck_and, ck_or, ck_xor, ck_shl, ck_shr, ck_ushr, ck_i2l, ck_l2i, ck_cmp]) ?_
  refine xZ.k_nAJ (me := xm4) hP_4 rfl rfl (by decide) (fun x5 M8 => ?_)
  refine xZ.k_pR (x := (some x5)) (me := xm4) hP_4 rfl (fun M9 => ?_)
  refine xZ.adv (me := xm4) hP_4 2 (pc' := 42) (lv' := [(0, .ref v0)]) (st' := [.int (8 : Int32), .ref v0]) rfl ?_
  refine xZ.eqs (lv2 := [(0, .ref v0)]) (st2 := [.int (yw 8), .ref v0]) rfl (by simp only [yl_lit, yL_lit, yw_add, yw_sub, yw_mul, yw_neg, yl_add, yl_sub, yl_mul, cj_and, cj_or, cj_xor, cj_shl, cj_shr, cj_ushr, cj_div, cj_i2c, cj_i2b, cj_dc, ck_and, ck_or, ck_xor, ck_shl, ck_shr, ck_ushr, ck_i2l, ck_l2i, ck_cmp]) ?_
  refine xZ.k_nAJ (me := xm4) hP_4 rfl rfl (by decide) (fun x6 M10 => ?_)
  refine xZ.k_pR (x := (some x6)) (me := xm4) hP_4 rfl (fun M11 => ?_)
  exact xZ.retu (me := xm4) hP_4 rfl rfl
def f_Device_ctor_54 (O : Nat → Option va_E) (f : Nat) : Nat → Nat → Int → xM → Option (Unit × xM)
  | 0, _, _, _ => none
  | n + 1, v0, v1, M =>
    (gR O M v0 3 5).bind fun x1 =>
    (aJN O M x1).bind fun x2 =>
    if yw x2 ≤ yw v1 then (
      some ((), M)
    ) else
    (gR O M v0 3 5).bind fun x3 =>
    (wJ M x3 v1 (-1)).bind fun M1 =>
    f_Device_ctor_54 O f n v0 (v1 + 1) M1
set_option maxRecDepth 20000 in
theorem k_f_Device_ctor_54 (O : Nat → Option va_E) (f d : Nat) : ∀ (n : Nat) (v0 : Nat) (v1 : Int) (M : xM), xZ oU O (d + 0) 6 54 [(0, .ref v0), (1, .int (yw v1))] [] M (f_Device_ctor_54 O f n v0 v1 M) := by
  intro n
  induction n with
  | zero =>
    intro v0 v1 M
    exact xZ.no
  | succ n ih =>
    intro v0 v1 M
    unfold f_Device_ctor_54
    refine xZ.adv (me := xm6) hP_6 2 (pc' := 56) (lv' := [(0, .ref v0), (1, .int (yw v1))]) (st' := [.ref v0, .int (yw v1)]) rfl ?_
    refine xZ.k_gR (me := xm6) hP_6 rfl (fun x1 => ?_)
    refine xZ.k_aJN (me := xm6) hP_6 rfl (fun x2 => ?_)
    refine xZ.jc_ge (me := xm6) hP_6 rfl (fun h1 => ?_) (fun h1 => ?_)
    · skip
      exact xZ.retu (me := xm6) hP_6 rfl rfl
    · skip
      refine xZ.adv (me := xm6) hP_6 1 (pc' := 64) (lv' := [(0, .ref v0), (1, .int (yw v1))]) (st' := [.ref v0]) rfl ?_
      refine xZ.k_gR (me := xm6) hP_6 rfl (fun x3 => ?_)
      refine xZ.adv (me := xm6) hP_6 2 (pc' := 69) (lv' := [(0, .ref v0), (1, .int (yw v1))]) (st' := [.int (-1 : Int32), .int (yw v1), .ref x3]) rfl ?_
      refine xZ.eqs (lv2 := [(0, .ref v0), (1, .int (yw v1))]) (st2 := [.int (yw (-1)), .int (yw v1), .ref x3]) rfl (by simp only [yl_lit, yL_lit, yw_add, yw_sub, yw_mul, yw_neg, yl_add, yl_sub, yl_mul, cj_and, cj_or, cj_xor, cj_shl, cj_shr, cj_ushr, cj_div, cj_i2c, cj_i2b, cj_dc, ck_and, ck_or, ck_xor, ck_shl, ck_shr, ck_ushr, ck_i2l, ck_l2i, ck_cmp]) ?_
      refine xZ.k_wJ (me := xm6) hP_6 rfl (fun M1 => ?_)
      refine xZ.adv (me := xm6) hP_6 2 (pc' := 54) (lv' := [(1, .int ((yw v1) + (1 : Int32))), (0, .ref v0)]) (st' := []) rfl ?_
      refine xZ.eqs (lv2 := [(1, .int (yw (v1 + 1))), (0, .ref v0)]) (st2 := []) (by simp only [yl_lit, yL_lit, yw_add, yw_sub, yw_mul, yw_neg, yl_add, yl_sub, yl_mul, cj_and, cj_or, cj_xor, cj_shl, cj_shr, cj_ushr, cj_div, cj_i2c, cj_i2b, cj_dc, ck_and, ck_or, ck_xor, ck_shl, ck_shr, ck_ushr, ck_i2l, ck_l2i, ck_cmp]) rfl ?_
      exact xZ.sub (xsc (.tail _ (.head _)) (xsc (.head _) xsn)) (show ([1, 0] : List Nat).Nodup from by decide) (ih v0 (v1 + 1) M1)
def f_Device_ctor (O : Nat → Option va_E) (f : Nat) (v0 : Nat) (M : xM) : Option (Unit × xM) :=
  xcl (nAJ M 0 40) fun x1 M1 =>
  (pR M1 v0 3 2 (some x1)).bind fun M2 =>
  xcl (nAJ M2 0 40) fun x2 M3 =>
  (pR M3 v0 3 3 (some x2)).bind fun M4 =>
  xcl (nAJ M4 0 40) fun x3 M5 =>
  (pR M5 v0 3 4 (some x3)).bind fun M6 =>
  xcl (nAJ M6 0 48) fun x4 M7 =>
  (pR M7 v0 3 5 (some x4)).bind fun M8 =>
  xcl (nAJ M8 0 48) fun x5 M9 =>
  (pR M9 v0 3 6 (some x5)).bind fun M10 =>
  xcl (nAJ M10 0 48) fun x6 M11 =>
  (pR M11 v0 3 7 (some x6)).bind fun M12 =>
  f_Device_ctor_54 O f f v0 0 M12
set_option maxRecDepth 20000 in
theorem k_f_Device_ctor (O : Nat → Option va_E) (f d : Nat) (v0 : Nat) (M : xM) : xZ oU O (d + 0) 6 0 [(0, .ref v0)] [] M (f_Device_ctor O f v0 M) := by
  unfold f_Device_ctor
  refine xZ.adv (me := xm6) hP_6 1 (pc' := 1) (lv' := [(0, .ref v0)]) (st' := [.ref v0]) rfl ?_
  refine xZ.obj (me := xm6) hP_6 rfl (Nat.le_of_ble_eq_true rfl) ?_
  refine xZ.adv (me := xm6) hP_6 2 (pc' := 7) (lv' := [(0, .ref v0)]) (st' := [.int (40 : Int32), .ref v0]) rfl ?_
  refine xZ.eqs (lv2 := [(0, .ref v0)]) (st2 := [.int (yw 40), .ref v0]) rfl (by simp only [yl_lit, yL_lit, yw_add, yw_sub, yw_mul, yw_neg, yl_add, yl_sub, yl_mul, cj_and, cj_or, cj_xor, cj_shl, cj_shr, cj_ushr, cj_div, cj_i2c, cj_i2b, cj_dc, ck_and, ck_or, ck_xor, ck_shl, ck_shr, ck_ushr, ck_i2l, ck_l2i, ck_cmp]) ?_
  refine xZ.k_nAJ (me := xm6) hP_6 rfl rfl (by decide) (fun x1 M1 => ?_)
  refine xZ.k_pR (x := (some x1)) (me := xm6) hP_6 rfl (fun M2 => ?_)
  refine xZ.adv (me := xm6) hP_6 2 (pc' := 15) (lv' := [(0, .ref v0)]) (st' := [.int (40 : Int32), .ref v0]) rfl ?_
  refine xZ.eqs (lv2 := [(0, .ref v0)]) (st2 := [.int (yw 40), .ref v0]) rfl (by simp only [yl_lit, yL_lit, yw_add, yw_sub, yw_mul, yw_neg, yl_add, yl_sub, yl_mul, cj_and, cj_or, cj_xor, cj_shl, cj_shr, cj_ushr, cj_div, cj_i2c, cj_i2b, cj_dc, ck_and, ck_or, ck_xor, ck_shl, ck_shr, ck_ushr, ck_i2l, ck_l2i, ck_cmp]) ?_
  refine xZ.k_nAJ (me := xm6) hP_6 rfl rfl (by decide) (fun x2 M3 => ?_)
  refine xZ.k_pR (x := (some x2)) (me := xm6) hP_6 rfl (fun M4 => ?_)
  refine xZ.adv (me := xm6) hP_6 2 (pc' := 23) (lv' := [(0, .ref v0)]) (st' := [.int (40 : Int32), .ref v0]) rfl ?_
  refine xZ.eqs (lv2 := [(0, .ref v0)]) (st2 := [.int (yw 40), .ref v0]) rfl (by simp only [yl_lit, yL_lit, yw_add, yw_sub, yw_mul, yw_neg, yl_add, yl_sub, yl_mul, cj_and, cj_or, cj_xor, cj_shl, cj_shr, cj_ushr, cj_div, cj_i2c, cj_i2b, cj_dc, ck_and, ck_or, ck_xor, ck_shl, ck_shr, ck_ushr, ck_i2l, ck_l2i, ck_cmp]) ?_
  refine xZ.k_nAJ (me := xm6) hP_6 rfl rfl (by decide) (fun x3 M5 => ?_)
  refine xZ.k_pR (x := (some x3)) (me := xm6) hP_6 rfl (fun M6 => ?_)
  refine xZ.adv (me := xm6) hP_6 2 (pc' := 31) (lv' := [(0, .ref v0)]) (st' := [.int (48 : Int32), .ref v0]) rfl ?_
  refine xZ.eqs (lv2 := [(0, .ref v0)]) (st2 := [.int (yw 48), .ref v0]) rfl (by simp only [yl_lit, yL_lit, yw_add, yw_sub, yw_mul, yw_neg, yl_add, yl_sub, yl_mul, cj_and, cj_or, cj_xor, cj_shl, cj_shr, cj_ushr, cj_div, cj_i2c, cj_i2b, cj_dc, ck_and, ck_or, ck_xor, ck_shl, ck_shr, ck_ushr, ck_i2l, ck_l2i, ck_cmp]) ?_
  refine xZ.k_nAJ (me := xm6) hP_6 rfl rfl (by decide) (fun x4 M7 => ?_)
  refine xZ.k_pR (x := (some x4)) (me := xm6) hP_6 rfl (fun M8 => ?_)
  refine xZ.adv (me := xm6) hP_6 2 (pc' := 39) (lv' := [(0, .ref v0)]) (st' := [.int (48 : Int32), .ref v0]) rfl ?_
  refine xZ.eqs (lv2 := [(0, .ref v0)]) (st2 := [.int (yw 48), .ref v0]) rfl (by simp only [yl_lit, yL_lit, yw_add, yw_sub, yw_mul, yw_neg, yl_add, yl_sub, yl_mul, cj_and, cj_or, cj_xor, cj_shl, cj_shr, cj_ushr, cj_div, cj_i2c, cj_i2b, cj_dc, ck_and, ck_or, ck_xor, ck_shl, ck_shr, ck_ushr, ck_i2l, ck_l2i, ck_cmp]) ?_
  refine xZ.k_nAJ (me := xm6) hP_6 rfl rfl (by decide) (fun x5 M9 => ?_)
  refine xZ.k_pR (x := (some x5)) (me := xm6) hP_6 rfl (fun M10 => ?_)
  refine xZ.adv (me := xm6) hP_6 2 (pc' := 47) (lv' := [(0, .ref v0)]) (st' := [.int (48 : Int32), .ref v0]) rfl ?_
  refine xZ.eqs (lv2 := [(0, .ref v0)]) (st2 := [.int (yw 48), .ref v0]) rfl (by simp only [yl_lit, yL_lit, yw_add, yw_sub, yw_mul, yw_neg, yl_add, yl_sub, yl_mul, cj_and, cj_or, cj_xor, cj_shl, cj_shr, cj_ushr, cj_div, cj_i2c, cj_i2b, cj_dc, ck_and, ck_or, ck_xor, ck_shl, ck_shr, ck_ushr, ck_i2l, ck_l2i, ck_cmp]) ?_
  refine xZ.k_nAJ (me := xm6) hP_6 rfl rfl (by decide) (fun x6 M11 => ?_)
  refine xZ.k_pR (x := (some x6)) (me := xm6) hP_6 rfl (fun M12 => ?_)
  refine xZ.adv (me := xm6) hP_6 2 (pc' := 54) (lv' := [(1, .int (0 : Int32)), (0, .ref v0)]) (st' := []) rfl ?_
  refine xZ.eqs (lv2 := [(1, .int (yw 0)), (0, .ref v0)]) (st2 := []) (by simp only [yl_lit, yL_lit, yw_add, yw_sub, yw_mul, yw_neg, yl_add, yl_sub, yl_mul, cj_and, cj_or, cj_xor, cj_shl, cj_shr, cj_ushr, cj_div, cj_i2c, cj_i2b, cj_dc, ck_and, ck_or, ck_xor, ck_shl, ck_shr, ck_ushr, ck_i2l, ck_l2i, ck_cmp]) rfl ?_
  exact xZ.sub (xsc (.tail _ (.head _)) (xsc (.head _) xsn)) (show ([1, 0] : List Nat).Nodup from by decide) (k_f_Device_ctor_54 O f d f v0 0 M12)
def f_Hall_ctor_222 (O : Nat → Option va_E) (f : Nat) : Nat → Nat → Int → xM → Option (Unit × xM)
  | 0, _, _, _ => none
  | n + 1, v0, v1, M =>
    (gR O M v0 4 6).bind fun x1 =>
    (aJN O M x1).bind fun x2 =>
    if yw x2 ≤ yw v1 then (
      some ((), M)
    ) else
    (gR O M v0 4 6).bind fun x3 =>
    (wJ M x3 v1 (-1)).bind fun M1 =>
    f_Hall_ctor_222 O f n v0 (v1 + 1) M1
set_option maxRecDepth 20000 in
theorem k_f_Hall_ctor_222 (O : Nat → Option va_E) (f d : Nat) : ∀ (n : Nat) (v0 : Nat) (v1 : Int) (M : xM), xZ oU O (d + 2) 1 222 [(0, .ref v0), (1, .int (yw v1))] [] M (f_Hall_ctor_222 O f n v0 v1 M) := by
  intro n
  induction n with
  | zero =>
    intro v0 v1 M
    exact xZ.no
  | succ n ih =>
    intro v0 v1 M
    unfold f_Hall_ctor_222
    refine xZ.adv (me := xm1) hP_1 2 (pc' := 224) (lv' := [(0, .ref v0), (1, .int (yw v1))]) (st' := [.ref v0, .int (yw v1)]) rfl ?_
    refine xZ.k_gR (me := xm1) hP_1 rfl (fun x1 => ?_)
    refine xZ.k_aJN (me := xm1) hP_1 rfl (fun x2 => ?_)
    refine xZ.jc_ge (me := xm1) hP_1 rfl (fun h1 => ?_) (fun h1 => ?_)
    · skip
      exact xZ.retu (me := xm1) hP_1 rfl rfl
    · skip
      refine xZ.adv (me := xm1) hP_1 1 (pc' := 232) (lv' := [(0, .ref v0), (1, .int (yw v1))]) (st' := [.ref v0]) rfl ?_
      refine xZ.k_gR (me := xm1) hP_1 rfl (fun x3 => ?_)
      refine xZ.adv (me := xm1) hP_1 2 (pc' := 237) (lv' := [(0, .ref v0), (1, .int (yw v1))]) (st' := [.int (-1 : Int32), .int (yw v1), .ref x3]) rfl ?_
      refine xZ.eqs (lv2 := [(0, .ref v0), (1, .int (yw v1))]) (st2 := [.int (yw (-1)), .int (yw v1), .ref x3]) rfl (by simp only [yl_lit, yL_lit, yw_add, yw_sub, yw_mul, yw_neg, yl_add, yl_sub, yl_mul, cj_and, cj_or, cj_xor, cj_shl, cj_shr, cj_ushr, cj_div, cj_i2c, cj_i2b, cj_dc, ck_and, ck_or, ck_xor, ck_shl, ck_shr, ck_ushr, ck_i2l, ck_l2i, ck_cmp]) ?_
      refine xZ.k_wJ (me := xm1) hP_1 rfl (fun M1 => ?_)
      refine xZ.adv (me := xm1) hP_1 2 (pc' := 222) (lv' := [(1, .int ((yw v1) + (1 : Int32))), (0, .ref v0)]) (st' := []) rfl ?_
      refine xZ.eqs (lv2 := [(1, .int (yw (v1 + 1))), (0, .ref v0)]) (st2 := []) (by simp only [yl_lit, yL_lit, yw_add, yw_sub, yw_mul, yw_neg, yl_add, yl_sub, yl_mul, cj_and, cj_or, cj_xor, cj_shl, cj_shr, cj_ushr, cj_div, cj_i2c, cj_i2b, cj_dc, ck_and, ck_or, ck_xor, ck_shl, ck_shr, ck_ushr, ck_i2l, ck_l2i, ck_cmp]) rfl ?_
      exact xZ.sub (xsc (.tail _ (.head _)) (xsc (.head _) xsn)) (show ([1, 0] : List Nat).Nodup from by decide) (ih v0 (v1 + 1) M1)
def f_Hall_ctor_192 (O : Nat → Option va_E) (f : Nat) : Nat → Nat → Int → xM → Option (Unit × xM)
  | 0, _, _, _ => none
  | n + 1, v0, v1, M =>
    (gR O M v0 4 4).bind fun x1 =>
    (aJN O M x1).bind fun x2 =>
    if yw x2 ≤ yw v1 then (
      f_Hall_ctor_222 O f f v0 0 M
    ) else
    (gR O M v0 4 4).bind fun x3 =>
    xcl (nO M 3) fun x4 M1 =>
    xcl (f_Device_ctor O f x4 M1) fun _ M2 =>
    (wJR O M2 x3 v1 x4).bind fun M3 =>
    f_Hall_ctor_192 O f n v0 (v1 + 1) M3
set_option maxRecDepth 20000 in
theorem k_f_Hall_ctor_192 (O : Nat → Option va_E) (f d : Nat) : ∀ (n : Nat) (v0 : Nat) (v1 : Int) (M : xM), xZ oU O (d + 2) 1 192 [(0, .ref v0), (1, .int (yw v1))] [] M (f_Hall_ctor_192 O f n v0 v1 M) := by
  intro n
  induction n with
  | zero =>
    intro v0 v1 M
    exact xZ.no
  | succ n ih =>
    intro v0 v1 M
    unfold f_Hall_ctor_192
    refine xZ.adv (me := xm1) hP_1 2 (pc' := 194) (lv' := [(0, .ref v0), (1, .int (yw v1))]) (st' := [.ref v0, .int (yw v1)]) rfl ?_
    refine xZ.k_gR (me := xm1) hP_1 rfl (fun x1 => ?_)
    refine xZ.k_aJN (me := xm1) hP_1 rfl (fun x2 => ?_)
    refine xZ.jc_ge (me := xm1) hP_1 rfl (fun h1 => ?_) (fun h1 => ?_)
    · skip
      refine xZ.adv (me := xm1) hP_1 2 (pc' := 222) (lv' := [(1, .int (0 : Int32)), (0, .ref v0)]) (st' := []) rfl ?_
      refine xZ.eqs (lv2 := [(1, .int (yw 0)), (0, .ref v0)]) (st2 := []) (by simp only [yl_lit, yL_lit, yw_add, yw_sub, yw_mul, yw_neg, yl_add, yl_sub, yl_mul, cj_and, cj_or, cj_xor, cj_shl, cj_shr, cj_ushr, cj_div, cj_i2c, cj_i2b, cj_dc, ck_and, ck_or, ck_xor, ck_shl, ck_shr, ck_ushr, ck_i2l, ck_l2i, ck_cmp]) rfl ?_
      exact xZ.sub (xsc (.tail _ (.head _)) (xsc (.head _) xsn)) (show ([1, 0] : List Nat).Nodup from by decide) (k_f_Hall_ctor_222 O f d f v0 0 M)
    · skip
      refine xZ.adv (me := xm1) hP_1 1 (pc' := 202) (lv' := [(0, .ref v0), (1, .int (yw v1))]) (st' := [.ref v0]) rfl ?_
      refine xZ.k_gR (me := xm1) hP_1 rfl (fun x3 => ?_)
      refine xZ.adv (me := xm1) hP_1 1 (pc' := 206) (lv' := [(0, .ref v0), (1, .int (yw v1))]) (st' := [.int (yw v1), .ref x3]) rfl ?_
      refine xZ.k_nO (me := xm1) hP_1 rfl rfl (fun x4 M1 => ?_)
      refine xZ.adv (me := xm1) hP_1 1 (pc' := 210) (lv' := [(0, .ref v0), (1, .int (yw v1))]) (st' := [.ref x4, .ref x4, .int (yw v1), .ref x3]) rfl ?_
      refine xZ.calli (κ := oU) (av := []) (rest := [.ref x4, .int (yw v1), .ref x3]) (st' := fun _ => [.ref x4, .int (yw v1), .ref x3]) (k0 := x4) (me := xm1) hP_1 rfl (Or.inl rfl) rfl rfl (Nat.le_of_ble_eq_true rfl) (by decide) hP_6 (Nat.le_of_ble_eq_true rfl) (fun _ => rfl) (k_f_Device_ctor O f (d + 1) x4 M1) (fun _ M2 => ?_)
      refine xZ.k_wJR (me := xm1) hP_1 rfl (fun M3 => ?_)
      refine xZ.adv (me := xm1) hP_1 2 (pc' := 192) (lv' := [(1, .int ((yw v1) + (1 : Int32))), (0, .ref v0)]) (st' := []) rfl ?_
      refine xZ.eqs (lv2 := [(1, .int (yw (v1 + 1))), (0, .ref v0)]) (st2 := []) (by simp only [yl_lit, yL_lit, yw_add, yw_sub, yw_mul, yw_neg, yl_add, yl_sub, yl_mul, cj_and, cj_or, cj_xor, cj_shl, cj_shr, cj_ushr, cj_div, cj_i2c, cj_i2b, cj_dc, ck_and, ck_or, ck_xor, ck_shl, ck_shr, ck_ushr, ck_i2l, ck_l2i, ck_cmp]) rfl ?_
      exact xZ.sub (xsc (.tail _ (.head _)) (xsc (.head _) xsn)) (show ([1, 0] : List Nat).Nodup from by decide) (ih v0 (v1 + 1) M3)
def f_Hall_ctor_162 (O : Nat → Option va_E) (f : Nat) : Nat → Nat → Int → xM → Option (Unit × xM)
  | 0, _, _, _ => none
  | n + 1, v0, v1, M =>
    (gR O M v0 4 3).bind fun x1 =>
    (aJN O M x1).bind fun x2 =>
    if yw x2 ≤ yw v1 then (
      f_Hall_ctor_192 O f f v0 0 M
    ) else
    (gR O M v0 4 3).bind fun x3 =>
    xcl (nO M 10) fun x4 M1 =>
    xcl (f_Series_ctor O f x4 M1) fun _ M2 =>
    (wJR O M2 x3 v1 x4).bind fun M3 =>
    f_Hall_ctor_162 O f n v0 (v1 + 1) M3
set_option maxRecDepth 20000 in
theorem k_f_Hall_ctor_162 (O : Nat → Option va_E) (f d : Nat) : ∀ (n : Nat) (v0 : Nat) (v1 : Int) (M : xM), xZ oU O (d + 2) 1 162 [(0, .ref v0), (1, .int (yw v1))] [] M (f_Hall_ctor_162 O f n v0 v1 M) := by
  intro n
  induction n with
  | zero =>
    intro v0 v1 M
    exact xZ.no
  | succ n ih =>
    intro v0 v1 M
    unfold f_Hall_ctor_162
    refine xZ.adv (me := xm1) hP_1 2 (pc' := 164) (lv' := [(0, .ref v0), (1, .int (yw v1))]) (st' := [.ref v0, .int (yw v1)]) rfl ?_
    refine xZ.k_gR (me := xm1) hP_1 rfl (fun x1 => ?_)
    refine xZ.k_aJN (me := xm1) hP_1 rfl (fun x2 => ?_)
    refine xZ.jc_ge (me := xm1) hP_1 rfl (fun h1 => ?_) (fun h1 => ?_)
    · skip
      refine xZ.adv (me := xm1) hP_1 2 (pc' := 192) (lv' := [(1, .int (0 : Int32)), (0, .ref v0)]) (st' := []) rfl ?_
      refine xZ.eqs (lv2 := [(1, .int (yw 0)), (0, .ref v0)]) (st2 := []) (by simp only [yl_lit, yL_lit, yw_add, yw_sub, yw_mul, yw_neg, yl_add, yl_sub, yl_mul, cj_and, cj_or, cj_xor, cj_shl, cj_shr, cj_ushr, cj_div, cj_i2c, cj_i2b, cj_dc, ck_and, ck_or, ck_xor, ck_shl, ck_shr, ck_ushr, ck_i2l, ck_l2i, ck_cmp]) rfl ?_
      exact xZ.sub (xsc (.tail _ (.head _)) (xsc (.head _) xsn)) (show ([1, 0] : List Nat).Nodup from by decide) (k_f_Hall_ctor_192 O f d f v0 0 M)
    · skip
      refine xZ.adv (me := xm1) hP_1 1 (pc' := 172) (lv' := [(0, .ref v0), (1, .int (yw v1))]) (st' := [.ref v0]) rfl ?_
      refine xZ.k_gR (me := xm1) hP_1 rfl (fun x3 => ?_)
      refine xZ.adv (me := xm1) hP_1 1 (pc' := 176) (lv' := [(0, .ref v0), (1, .int (yw v1))]) (st' := [.int (yw v1), .ref x3]) rfl ?_
      refine xZ.k_nO (me := xm1) hP_1 rfl rfl (fun x4 M1 => ?_)
      refine xZ.adv (me := xm1) hP_1 1 (pc' := 180) (lv' := [(0, .ref v0), (1, .int (yw v1))]) (st' := [.ref x4, .ref x4, .int (yw v1), .ref x3]) rfl ?_
      refine xZ.calli (κ := oU) (av := []) (rest := [.ref x4, .int (yw v1), .ref x3]) (st' := fun _ => [.ref x4, .int (yw v1), .ref x3]) (k0 := x4) (me := xm1) hP_1 rfl (Or.inl rfl) rfl rfl (Nat.le_of_ble_eq_true rfl) (by decide) hP_4 (Nat.le_of_ble_eq_true rfl) (fun _ => rfl) (k_f_Series_ctor O f (d + 0) x4 M1) (fun _ M2 => ?_)
      refine xZ.k_wJR (me := xm1) hP_1 rfl (fun M3 => ?_)
      refine xZ.adv (me := xm1) hP_1 2 (pc' := 162) (lv' := [(1, .int ((yw v1) + (1 : Int32))), (0, .ref v0)]) (st' := []) rfl ?_
      refine xZ.eqs (lv2 := [(1, .int (yw (v1 + 1))), (0, .ref v0)]) (st2 := []) (by simp only [yl_lit, yL_lit, yw_add, yw_sub, yw_mul, yw_neg, yl_add, yl_sub, yl_mul, cj_and, cj_or, cj_xor, cj_shl, cj_shr, cj_ushr, cj_div, cj_i2c, cj_i2b, cj_dc, ck_and, ck_or, ck_xor, ck_shl, ck_shr, ck_ushr, ck_i2l, ck_l2i, ck_cmp]) rfl ?_
      exact xZ.sub (xsc (.tail _ (.head _)) (xsc (.head _) xsn)) (show ([1, 0] : List Nat).Nodup from by decide) (ih v0 (v1 + 1) M3)
def f_Hall_ctor_132 (O : Nat → Option va_E) (f : Nat) : Nat → Nat → Int → xM → Option (Unit × xM)
  | 0, _, _, _ => none
  | n + 1, v0, v1, M =>
    (gR O M v0 4 1).bind fun x1 =>
    (aJN O M x1).bind fun x2 =>
    if yw x2 ≤ yw v1 then (
      f_Hall_ctor_162 O f f v0 0 M
    ) else
    (gR O M v0 4 1).bind fun x3 =>
    xcl (nO M 6) fun x4 M1 =>
    xcl (f_Person_ctor O f x4 M1) fun _ M2 =>
    (wJR O M2 x3 v1 x4).bind fun M3 =>
    f_Hall_ctor_132 O f n v0 (v1 + 1) M3
set_option maxRecDepth 20000 in
theorem k_f_Hall_ctor_132 (O : Nat → Option va_E) (f d : Nat) : ∀ (n : Nat) (v0 : Nat) (v1 : Int) (M : xM), xZ oU O (d + 2) 1 132 [(0, .ref v0), (1, .int (yw v1))] [] M (f_Hall_ctor_132 O f n v0 v1 M) := by
  intro n
  induction n with
  | zero =>
    intro v0 v1 M
    exact xZ.no
  | succ n ih =>
    intro v0 v1 M
    unfold f_Hall_ctor_132
    refine xZ.adv (me := xm1) hP_1 2 (pc' := 134) (lv' := [(0, .ref v0), (1, .int (yw v1))]) (st' := [.ref v0, .int (yw v1)]) rfl ?_
    refine xZ.k_gR (me := xm1) hP_1 rfl (fun x1 => ?_)
    refine xZ.k_aJN (me := xm1) hP_1 rfl (fun x2 => ?_)
    refine xZ.jc_ge (me := xm1) hP_1 rfl (fun h1 => ?_) (fun h1 => ?_)
    · skip
      refine xZ.adv (me := xm1) hP_1 2 (pc' := 162) (lv' := [(1, .int (0 : Int32)), (0, .ref v0)]) (st' := []) rfl ?_
      refine xZ.eqs (lv2 := [(1, .int (yw 0)), (0, .ref v0)]) (st2 := []) (by simp only [yl_lit, yL_lit, yw_add, yw_sub, yw_mul, yw_neg, yl_add, yl_sub, yl_mul, cj_and, cj_or, cj_xor, cj_shl, cj_shr, cj_ushr, cj_div, cj_i2c, cj_i2b, cj_dc, ck_and, ck_or, ck_xor, ck_shl, ck_shr, ck_ushr, ck_i2l, ck_l2i, ck_cmp]) rfl ?_
      exact xZ.sub (xsc (.tail _ (.head _)) (xsc (.head _) xsn)) (show ([1, 0] : List Nat).Nodup from by decide) (k_f_Hall_ctor_162 O f d f v0 0 M)
    · skip
      refine xZ.adv (me := xm1) hP_1 1 (pc' := 142) (lv' := [(0, .ref v0), (1, .int (yw v1))]) (st' := [.ref v0]) rfl ?_
      refine xZ.k_gR (me := xm1) hP_1 rfl (fun x3 => ?_)
      refine xZ.adv (me := xm1) hP_1 1 (pc' := 146) (lv' := [(0, .ref v0), (1, .int (yw v1))]) (st' := [.int (yw v1), .ref x3]) rfl ?_
      refine xZ.k_nO (me := xm1) hP_1 rfl rfl (fun x4 M1 => ?_)
      refine xZ.adv (me := xm1) hP_1 1 (pc' := 150) (lv' := [(0, .ref v0), (1, .int (yw v1))]) (st' := [.ref x4, .ref x4, .int (yw v1), .ref x3]) rfl ?_
      refine xZ.calli (κ := oU) (av := []) (rest := [.ref x4, .int (yw v1), .ref x3]) (st' := fun _ => [.ref x4, .int (yw v1), .ref x3]) (k0 := x4) (me := xm1) hP_1 rfl (Or.inl rfl) rfl rfl (Nat.le_of_ble_eq_true rfl) (by decide) hP_3 (Nat.le_of_ble_eq_true rfl) (fun _ => rfl) (k_f_Person_ctor O f (d + 1) x4 M1) (fun _ M2 => ?_)
      refine xZ.k_wJR (me := xm1) hP_1 rfl (fun M3 => ?_)
      refine xZ.adv (me := xm1) hP_1 2 (pc' := 132) (lv' := [(1, .int ((yw v1) + (1 : Int32))), (0, .ref v0)]) (st' := []) rfl ?_
      refine xZ.eqs (lv2 := [(1, .int (yw (v1 + 1))), (0, .ref v0)]) (st2 := []) (by simp only [yl_lit, yL_lit, yw_add, yw_sub, yw_mul, yw_neg, yl_add, yl_sub, yl_mul, cj_and, cj_or, cj_xor, cj_shl, cj_shr, cj_ushr, cj_div, cj_i2c, cj_i2b, cj_dc, ck_and, ck_or, ck_xor, ck_shl, ck_shr, ck_ushr, ck_i2l, ck_l2i, ck_cmp]) rfl ?_
      exact xZ.sub (xsc (.tail _ (.head _)) (xsc (.head _) xsn)) (show ([1, 0] : List Nat).Nodup from by decide) (ih v0 (v1 + 1) M3)
def f_Hall_ctor_102 (O : Nat → Option va_E) (f : Nat) : Nat → Nat → Int → xM → Option (Unit × xM)
  | 0, _, _, _ => none
  | n + 1, v0, v1, M =>
    (gR O M v0 4 0).bind fun x1 =>
    (aJN O M x1).bind fun x2 =>
    if yw x2 ≤ yw v1 then (
      f_Hall_ctor_132 O f f v0 0 M
    ) else
    (gR O M v0 4 0).bind fun x3 =>
    xcl (nO M 11) fun x4 M1 =>
    xcl (f_Zone_ctor O f x4 M1) fun _ M2 =>
    (wJR O M2 x3 v1 x4).bind fun M3 =>
    f_Hall_ctor_102 O f n v0 (v1 + 1) M3
set_option maxRecDepth 20000 in
theorem k_f_Hall_ctor_102 (O : Nat → Option va_E) (f d : Nat) : ∀ (n : Nat) (v0 : Nat) (v1 : Int) (M : xM), xZ oU O (d + 2) 1 102 [(0, .ref v0), (1, .int (yw v1))] [] M (f_Hall_ctor_102 O f n v0 v1 M) := by
  intro n
  induction n with
  | zero =>
    intro v0 v1 M
    exact xZ.no
  | succ n ih =>
    intro v0 v1 M
    unfold f_Hall_ctor_102
    refine xZ.adv (me := xm1) hP_1 2 (pc' := 104) (lv' := [(0, .ref v0), (1, .int (yw v1))]) (st' := [.ref v0, .int (yw v1)]) rfl ?_
    refine xZ.k_gR (me := xm1) hP_1 rfl (fun x1 => ?_)
    refine xZ.k_aJN (me := xm1) hP_1 rfl (fun x2 => ?_)
    refine xZ.jc_ge (me := xm1) hP_1 rfl (fun h1 => ?_) (fun h1 => ?_)
    · skip
      refine xZ.adv (me := xm1) hP_1 2 (pc' := 132) (lv' := [(1, .int (0 : Int32)), (0, .ref v0)]) (st' := []) rfl ?_
      refine xZ.eqs (lv2 := [(1, .int (yw 0)), (0, .ref v0)]) (st2 := []) (by simp only [yl_lit, yL_lit, yw_add, yw_sub, yw_mul, yw_neg, yl_add, yl_sub, yl_mul, cj_and, cj_or, cj_xor, cj_shl, cj_shr, cj_ushr, cj_div, cj_i2c, cj_i2b, cj_dc, ck_and, ck_or, ck_xor, ck_shl, ck_shr, ck_ushr, ck_i2l, ck_l2i, ck_cmp]) rfl ?_
      exact xZ.sub (xsc (.tail _ (.head _)) (xsc (.head _) xsn)) (show ([1, 0] : List Nat).Nodup from by decide) (k_f_Hall_ctor_132 O f d f v0 0 M)
    · skip
      refine xZ.adv (me := xm1) hP_1 1 (pc' := 112) (lv' := [(0, .ref v0), (1, .int (yw v1))]) (st' := [.ref v0]) rfl ?_
      refine xZ.k_gR (me := xm1) hP_1 rfl (fun x3 => ?_)
      refine xZ.adv (me := xm1) hP_1 1 (pc' := 116) (lv' := [(0, .ref v0), (1, .int (yw v1))]) (st' := [.int (yw v1), .ref x3]) rfl ?_
      refine xZ.k_nO (me := xm1) hP_1 rfl rfl (fun x4 M1 => ?_)
      refine xZ.adv (me := xm1) hP_1 1 (pc' := 120) (lv' := [(0, .ref v0), (1, .int (yw v1))]) (st' := [.ref x4, .ref x4, .int (yw v1), .ref x3]) rfl ?_
      refine xZ.calli (κ := oU) (av := []) (rest := [.ref x4, .int (yw v1), .ref x3]) (st' := fun _ => [.ref x4, .int (yw v1), .ref x3]) (k0 := x4) (me := xm1) hP_1 rfl (Or.inl rfl) rfl rfl (Nat.le_of_ble_eq_true rfl) (by decide) hP_2 (Nat.le_of_ble_eq_true rfl) (fun _ => rfl) (k_f_Zone_ctor O f (d + 1) x4 M1) (fun _ M2 => ?_)
      refine xZ.k_wJR (me := xm1) hP_1 rfl (fun M3 => ?_)
      refine xZ.adv (me := xm1) hP_1 2 (pc' := 102) (lv' := [(1, .int ((yw v1) + (1 : Int32))), (0, .ref v0)]) (st' := []) rfl ?_
      refine xZ.eqs (lv2 := [(1, .int (yw (v1 + 1))), (0, .ref v0)]) (st2 := []) (by simp only [yl_lit, yL_lit, yw_add, yw_sub, yw_mul, yw_neg, yl_add, yl_sub, yl_mul, cj_and, cj_or, cj_xor, cj_shl, cj_shr, cj_ushr, cj_div, cj_i2c, cj_i2b, cj_dc, ck_and, ck_or, ck_xor, ck_shl, ck_shr, ck_ushr, ck_i2l, ck_l2i, ck_cmp]) rfl ?_
      exact xZ.sub (xsc (.tail _ (.head _)) (xsc (.head _) xsn)) (show ([1, 0] : List Nat).Nodup from by decide) (ih v0 (v1 + 1) M3)
def f_Hall_ctor (O : Nat → Option va_E) (f : Nat) (v0 : Nat) (M : xM) : Option (Unit × xM) :=
  xcl (nAJ M 7 3) fun x1 M1 =>
  (pR M1 v0 4 0 (some x1)).bind fun M2 =>
  xcl (nAJ M2 8 8) fun x2 M3 =>
  (pR M3 v0 4 1 (some x2)).bind fun M4 =>
  xcl (nAJ M4 0 4) fun x3 M5 =>
  (wJ M5 x3 0 0).bind fun M6 =>
  (wJ M6 x3 1 1).bind fun M7 =>
  (wJ M7 x3 2 2).bind fun M8 =>
  (wJ M8 x3 3 3).bind fun M9 =>
  (pR M9 v0 4 2 (some x3)).bind fun M10 =>
  xcl (nAJ M10 9 12) fun x4 M11 =>
  (pR M11 v0 4 3 (some x4)).bind fun M12 =>
  xcl (nAJ M12 10 2) fun x5 M13 =>
  (pR M13 v0 4 4 (some x5)).bind fun M14 =>
  (pJ M14 v0 4 5 14400).bind fun M15 =>
  xcl (nAJ M15 0 10) fun x6 M16 =>
  (pR M16 v0 4 6 (some x6)).bind fun M17 =>
  xcl (nAJ M17 0 10) fun x7 M18 =>
  (pR M18 v0 4 7 (some x7)).bind fun M19 =>
  xcl (nAJ M19 1 30) fun x8 M20 =>
  (pR M20 v0 4 8 (some x8)).bind fun M21 =>
  xcl (nAJ M21 1 10) fun x9 M22 =>
  (pR M22 v0 4 10 (some x9)).bind fun M23 =>
  f_Hall_ctor_102 O f f v0 0 M23
set_option maxRecDepth 20000 in
theorem k_f_Hall_ctor (O : Nat → Option va_E) (f d : Nat) (v0 : Nat) (M : xM) : xZ oU O (d + 2) 1 0 [(0, .ref v0)] [] M (f_Hall_ctor O f v0 M) := by
  unfold f_Hall_ctor
  refine xZ.adv (me := xm1) hP_1 1 (pc' := 1) (lv' := [(0, .ref v0)]) (st' := [.ref v0]) rfl ?_
  refine xZ.obj (me := xm1) hP_1 rfl (Nat.le_of_ble_eq_true rfl) ?_
  refine xZ.adv (me := xm1) hP_1 2 (pc' := 6) (lv' := [(0, .ref v0)]) (st' := [.int (3 : Int32), .ref v0]) rfl ?_
  refine xZ.eqs (lv2 := [(0, .ref v0)]) (st2 := [.int (yw 3), .ref v0]) rfl (by simp only [yl_lit, yL_lit, yw_add, yw_sub, yw_mul, yw_neg, yl_add, yl_sub, yl_mul, cj_and, cj_or, cj_xor, cj_shl, cj_shr, cj_ushr, cj_div, cj_i2c, cj_i2b, cj_dc, ck_and, ck_or, ck_xor, ck_shl, ck_shr, ck_ushr, ck_i2l, ck_l2i, ck_cmp]) ?_
  refine xZ.nRj (me := xm1) hP_1 rfl (by decide) (fun x1 M1 => ?_)
  refine xZ.k_pR (x := (some x1)) (me := xm1) hP_1 rfl (fun M2 => ?_)
  refine xZ.adv (me := xm1) hP_1 2 (pc' := 15) (lv' := [(0, .ref v0)]) (st' := [.int (8 : Int32), .ref v0]) rfl ?_
  refine xZ.eqs (lv2 := [(0, .ref v0)]) (st2 := [.int (yw 8), .ref v0]) rfl (by simp only [yl_lit, yL_lit, yw_add, yw_sub, yw_mul, yw_neg, yl_add, yl_sub, yl_mul, cj_and, cj_or, cj_xor, cj_shl, cj_shr, cj_ushr, cj_div, cj_i2c, cj_i2b, cj_dc, ck_and, ck_or, ck_xor, ck_shl, ck_shr, ck_ushr, ck_i2l, ck_l2i, ck_cmp]) ?_
  refine xZ.nRj (me := xm1) hP_1 rfl (by decide) (fun x2 M3 => ?_)
  refine xZ.k_pR (x := (some x2)) (me := xm1) hP_1 rfl (fun M4 => ?_)
  refine xZ.adv (me := xm1) hP_1 2 (pc' := 23) (lv' := [(0, .ref v0)]) (st' := [.int (4 : Int32), .ref v0]) rfl ?_
  refine xZ.eqs (lv2 := [(0, .ref v0)]) (st2 := [.int (yw 4), .ref v0]) rfl (by simp only [yl_lit, yL_lit, yw_add, yw_sub, yw_mul, yw_neg, yl_add, yl_sub, yl_mul, cj_and, cj_or, cj_xor, cj_shl, cj_shr, cj_ushr, cj_div, cj_i2c, cj_i2b, cj_dc, ck_and, ck_or, ck_xor, ck_shl, ck_shr, ck_ushr, ck_i2l, ck_l2i, ck_cmp]) ?_
  refine xZ.k_nAJ (me := xm1) hP_1 rfl rfl (by decide) (fun x3 M5 => ?_)
  refine xZ.adv (me := xm1) hP_1 3 (pc' := 28) (lv' := [(0, .ref v0)]) (st' := [.int (0 : Int32), .int (0 : Int32), .ref x3, .ref x3, .ref v0]) rfl ?_
  refine xZ.eqs (lv2 := [(0, .ref v0)]) (st2 := [.int (yw 0), .int (yw 0), .ref x3, .ref x3, .ref v0]) rfl (by simp only [yl_lit, yL_lit, yw_add, yw_sub, yw_mul, yw_neg, yl_add, yl_sub, yl_mul, cj_and, cj_or, cj_xor, cj_shl, cj_shr, cj_ushr, cj_div, cj_i2c, cj_i2b, cj_dc, ck_and, ck_or, ck_xor, ck_shl, ck_shr, ck_ushr, ck_i2l, ck_l2i, ck_cmp]) ?_
  refine xZ.k_wJ (me := xm1) hP_1 rfl (fun M6 => ?_)
  refine xZ.adv (me := xm1) hP_1 3 (pc' := 32) (lv' := [(0, .ref v0)]) (st' := [.int (1 : Int32), .int (1 : Int32), .ref x3, .ref x3, .ref v0]) rfl ?_
  refine xZ.eqs (lv2 := [(0, .ref v0)]) (st2 := [.int (yw 1), .int (yw 1), .ref x3, .ref x3, .ref v0]) rfl (by simp only [yl_lit, yL_lit, yw_add, yw_sub, yw_mul, yw_neg, yl_add, yl_sub, yl_mul, cj_and, cj_or, cj_xor, cj_shl, cj_shr, cj_ushr, cj_div, cj_i2c, cj_i2b, cj_dc, ck_and, ck_or, ck_xor, ck_shl, ck_shr, ck_ushr, ck_i2l, ck_l2i, ck_cmp]) ?_
  refine xZ.k_wJ (me := xm1) hP_1 rfl (fun M7 => ?_)
  refine xZ.adv (me := xm1) hP_1 3 (pc' := 36) (lv' := [(0, .ref v0)]) (st' := [.int (2 : Int32), .int (2 : Int32), .ref x3, .ref x3, .ref v0]) rfl ?_
  refine xZ.eqs (lv2 := [(0, .ref v0)]) (st2 := [.int (yw 2), .int (yw 2), .ref x3, .ref x3, .ref v0]) rfl (by simp only [yl_lit, yL_lit, yw_add, yw_sub, yw_mul, yw_neg, yl_add, yl_sub, yl_mul, cj_and, cj_or, cj_xor, cj_shl, cj_shr, cj_ushr, cj_div, cj_i2c, cj_i2b, cj_dc, ck_and, ck_or, ck_xor, ck_shl, ck_shr, ck_ushr, ck_i2l, ck_l2i, ck_cmp]) ?_
  refine xZ.k_wJ (me := xm1) hP_1 rfl (fun M8 => ?_)
  refine xZ.adv (me := xm1) hP_1 3 (pc' := 40) (lv' := [(0, .ref v0)]) (st' := [.int (3 : Int32), .int (3 : Int32), .ref x3, .ref x3, .ref v0]) rfl ?_
  refine xZ.eqs (lv2 := [(0, .ref v0)]) (st2 := [.int (yw 3), .int (yw 3), .ref x3, .ref x3, .ref v0]) rfl (by simp only [yl_lit, yL_lit, yw_add, yw_sub, yw_mul, yw_neg, yl_add, yl_sub, yl_mul, cj_and, cj_or, cj_xor, cj_shl, cj_shr, cj_ushr, cj_div, cj_i2c, cj_i2b, cj_dc, ck_and, ck_or, ck_xor, ck_shl, ck_shr, ck_ushr, ck_i2l, ck_l2i, ck_cmp]) ?_
  refine xZ.k_wJ (me := xm1) hP_1 rfl (fun M9 => ?_)
  refine xZ.k_pR (x := (some x3)) (me := xm1) hP_1 rfl (fun M10 => ?_)
  refine xZ.adv (me := xm1) hP_1 2 (pc' := 47) (lv' := [(0, .ref v0)]) (st' := [.int (12 : Int32), .ref v0]) rfl ?_
  refine xZ.eqs (lv2 := [(0, .ref v0)]) (st2 := [.int (yw 12), .ref v0]) rfl (by simp only [yl_lit, yL_lit, yw_add, yw_sub, yw_mul, yw_neg, yl_add, yl_sub, yl_mul, cj_and, cj_or, cj_xor, cj_shl, cj_shr, cj_ushr, cj_div, cj_i2c, cj_i2b, cj_dc, ck_and, ck_or, ck_xor, ck_shl, ck_shr, ck_ushr, ck_i2l, ck_l2i, ck_cmp]) ?_
  refine xZ.nRj (me := xm1) hP_1 rfl (by decide) (fun x4 M11 => ?_)
  refine xZ.k_pR (x := (some x4)) (me := xm1) hP_1 rfl (fun M12 => ?_)
  refine xZ.adv (me := xm1) hP_1 2 (pc' := 55) (lv' := [(0, .ref v0)]) (st' := [.int (2 : Int32), .ref v0]) rfl ?_
  refine xZ.eqs (lv2 := [(0, .ref v0)]) (st2 := [.int (yw 2), .ref v0]) rfl (by simp only [yl_lit, yL_lit, yw_add, yw_sub, yw_mul, yw_neg, yl_add, yl_sub, yl_mul, cj_and, cj_or, cj_xor, cj_shl, cj_shr, cj_ushr, cj_div, cj_i2c, cj_i2b, cj_dc, ck_and, ck_or, ck_xor, ck_shl, ck_shr, ck_ushr, ck_i2l, ck_l2i, ck_cmp]) ?_
  refine xZ.nRj (me := xm1) hP_1 rfl (by decide) (fun x5 M13 => ?_)
  refine xZ.k_pR (x := (some x5)) (me := xm1) hP_1 rfl (fun M14 => ?_)
  refine xZ.adv (me := xm1) hP_1 2 (pc' := 65) (lv' := [(0, .ref v0)]) (st' := [.int (14400 : Int32), .ref v0]) rfl ?_
  refine xZ.eqs (lv2 := [(0, .ref v0)]) (st2 := [.int (yw 14400), .ref v0]) rfl (by simp only [yl_lit, yL_lit, yw_add, yw_sub, yw_mul, yw_neg, yl_add, yl_sub, yl_mul, cj_and, cj_or, cj_xor, cj_shl, cj_shr, cj_ushr, cj_div, cj_i2c, cj_i2b, cj_dc, ck_and, ck_or, ck_xor, ck_shl, ck_shr, ck_ushr, ck_i2l, ck_l2i, ck_cmp]) ?_
  refine xZ.k_pJ (me := xm1) hP_1 rfl (fun M15 => ?_)
  refine xZ.adv (me := xm1) hP_1 2 (pc' := 71) (lv' := [(0, .ref v0)]) (st' := [.int (10 : Int32), .ref v0]) rfl ?_
  refine xZ.eqs (lv2 := [(0, .ref v0)]) (st2 := [.int (yw 10), .ref v0]) rfl (by simp only [yl_lit, yL_lit, yw_add, yw_sub, yw_mul, yw_neg, yl_add, yl_sub, yl_mul, cj_and, cj_or, cj_xor, cj_shl, cj_shr, cj_ushr, cj_div, cj_i2c, cj_i2b, cj_dc, ck_and, ck_or, ck_xor, ck_shl, ck_shr, ck_ushr, ck_i2l, ck_l2i, ck_cmp]) ?_
  refine xZ.k_nAJ (me := xm1) hP_1 rfl rfl (by decide) (fun x6 M16 => ?_)
  refine xZ.k_pR (x := (some x6)) (me := xm1) hP_1 rfl (fun M17 => ?_)
  refine xZ.adv (me := xm1) hP_1 2 (pc' := 79) (lv' := [(0, .ref v0)]) (st' := [.int (10 : Int32), .ref v0]) rfl ?_
  refine xZ.eqs (lv2 := [(0, .ref v0)]) (st2 := [.int (yw 10), .ref v0]) rfl (by simp only [yl_lit, yL_lit, yw_add, yw_sub, yw_mul, yw_neg, yl_add, yl_sub, yl_mul, cj_and, cj_or, cj_xor, cj_shl, cj_shr, cj_ushr, cj_div, cj_i2c, cj_i2b, cj_dc, ck_and, ck_or, ck_xor, ck_shl, ck_shr, ck_ushr, ck_i2l, ck_l2i, ck_cmp]) ?_
  refine xZ.k_nAJ (me := xm1) hP_1 rfl rfl (by decide) (fun x7 M18 => ?_)
  refine xZ.k_pR (x := (some x7)) (me := xm1) hP_1 rfl (fun M19 => ?_)
  refine xZ.adv (me := xm1) hP_1 2 (pc' := 87) (lv' := [(0, .ref v0)]) (st' := [.int (30 : Int32), .ref v0]) rfl ?_
  refine xZ.eqs (lv2 := [(0, .ref v0)]) (st2 := [.int (yw 30), .ref v0]) rfl (by simp only [yl_lit, yL_lit, yw_add, yw_sub, yw_mul, yw_neg, yl_add, yl_sub, yl_mul, cj_and, cj_or, cj_xor, cj_shl, cj_shr, cj_ushr, cj_div, cj_i2c, cj_i2b, cj_dc, ck_and, ck_or, ck_xor, ck_shl, ck_shr, ck_ushr, ck_i2l, ck_l2i, ck_cmp]) ?_
  refine xZ.k_nAJ (me := xm1) hP_1 rfl rfl (by decide) (fun x8 M20 => ?_)
  refine xZ.k_pR (x := (some x8)) (me := xm1) hP_1 rfl (fun M21 => ?_)
  refine xZ.adv (me := xm1) hP_1 2 (pc' := 95) (lv' := [(0, .ref v0)]) (st' := [.int (10 : Int32), .ref v0]) rfl ?_
  refine xZ.eqs (lv2 := [(0, .ref v0)]) (st2 := [.int (yw 10), .ref v0]) rfl (by simp only [yl_lit, yL_lit, yw_add, yw_sub, yw_mul, yw_neg, yl_add, yl_sub, yl_mul, cj_and, cj_or, cj_xor, cj_shl, cj_shr, cj_ushr, cj_div, cj_i2c, cj_i2b, cj_dc, ck_and, ck_or, ck_xor, ck_shl, ck_shr, ck_ushr, ck_i2l, ck_l2i, ck_cmp]) ?_
  refine xZ.k_nAJ (me := xm1) hP_1 rfl rfl (by decide) (fun x9 M22 => ?_)
  refine xZ.k_pR (x := (some x9)) (me := xm1) hP_1 rfl (fun M23 => ?_)
  refine xZ.adv (me := xm1) hP_1 2 (pc' := 102) (lv' := [(1, .int (0 : Int32)), (0, .ref v0)]) (st' := []) rfl ?_
  refine xZ.eqs (lv2 := [(1, .int (yw 0)), (0, .ref v0)]) (st2 := []) (by simp only [yl_lit, yL_lit, yw_add, yw_sub, yw_mul, yw_neg, yl_add, yl_sub, yl_mul, cj_and, cj_or, cj_xor, cj_shl, cj_shr, cj_ushr, cj_div, cj_i2c, cj_i2b, cj_dc, ck_and, ck_or, ck_xor, ck_shl, ck_shr, ck_ushr, ck_i2l, ck_l2i, ck_cmp]) rfl ?_
  exact xZ.sub (xsc (.tail _ (.head _)) (xsc (.head _) xsn)) (show ([1, 0] : List Nat).Nodup from by decide) (k_f_Hall_ctor_102 O f d f v0 0 M23)
def f_Dates_ctor (O : Nat → Option va_E) (f : Nat) (v0 : Nat) (M : xM) : Option (Unit × xM) :=
  xcl (nAJ M 1 320) fun x1 M1 =>
  (pR M1 v0 2 1 (some x1)).bind fun M2 =>
  xcl (nAJ M2 0 16) fun x2 M3 =>
  (pR M3 v0 2 2 (some x2)).bind fun M4 =>
  some ((), M4)
set_option maxRecDepth 20000 in
theorem k_f_Dates_ctor (O : Nat → Option va_E) (f d : Nat) (v0 : Nat) (M : xM) : xZ oU O (d + 0) 7 0 [(0, .ref v0)] [] M (f_Dates_ctor O f v0 M) := by
  unfold f_Dates_ctor
  refine xZ.adv (me := xm7) hP_7 1 (pc' := 1) (lv' := [(0, .ref v0)]) (st' := [.ref v0]) rfl ?_
  refine xZ.obj (me := xm7) hP_7 rfl (Nat.le_of_ble_eq_true rfl) ?_
  refine xZ.adv (me := xm7) hP_7 2 (pc' := 8) (lv' := [(0, .ref v0)]) (st' := [.int (320 : Int32), .ref v0]) rfl ?_
  refine xZ.eqs (lv2 := [(0, .ref v0)]) (st2 := [.int (yw 320), .ref v0]) rfl (by simp only [yl_lit, yL_lit, yw_add, yw_sub, yw_mul, yw_neg, yl_add, yl_sub, yl_mul, cj_and, cj_or, cj_xor, cj_shl, cj_shr, cj_ushr, cj_div, cj_i2c, cj_i2b, cj_dc, ck_and, ck_or, ck_xor, ck_shl, ck_shr, ck_ushr, ck_i2l, ck_l2i, ck_cmp]) ?_
  refine xZ.k_nAJ (me := xm7) hP_7 rfl rfl (by decide) (fun x1 M1 => ?_)
  refine xZ.k_pR (x := (some x1)) (me := xm7) hP_7 rfl (fun M2 => ?_)
  refine xZ.adv (me := xm7) hP_7 2 (pc' := 16) (lv' := [(0, .ref v0)]) (st' := [.int (16 : Int32), .ref v0]) rfl ?_
  refine xZ.eqs (lv2 := [(0, .ref v0)]) (st2 := [.int (yw 16), .ref v0]) rfl (by simp only [yl_lit, yL_lit, yw_add, yw_sub, yw_mul, yw_neg, yl_add, yl_sub, yl_mul, cj_and, cj_or, cj_xor, cj_shl, cj_shr, cj_ushr, cj_div, cj_i2c, cj_i2b, cj_dc, ck_and, ck_or, ck_xor, ck_shl, ck_shr, ck_ushr, ck_i2l, ck_l2i, ck_cmp]) ?_
  refine xZ.k_nAJ (me := xm7) hP_7 rfl rfl (by decide) (fun x2 M3 => ?_)
  refine xZ.k_pR (x := (some x2)) (me := xm7) hP_7 rfl (fun M4 => ?_)
  exact xZ.retu (me := xm7) hP_7 rfl rfl
def f_Meetings_ctor (O : Nat → Option va_E) (f : Nat) (v0 : Nat) (M : xM) : Option (Unit × xM) :=
  xcl (nAJ M 0 256) fun x1 M1 =>
  (pR M1 v0 5 1 (some x1)).bind fun M2 =>
  xcl (nAJ M2 0 256) fun x2 M3 =>
  (pR M3 v0 5 2 (some x2)).bind fun M4 =>
  xcl (nAJ M4 0 256) fun x3 M5 =>
  (pR M5 v0 5 3 (some x3)).bind fun M6 =>
  xcl (nAJ M6 0 4) fun x4 M7 =>
  (pR M7 v0 5 4 (some x4)).bind fun M8 =>
  xcl (nAJ M8 1 256) fun x5 M9 =>
  (pR M9 v0 5 6 (some x5)).bind fun M10 =>
  xcl (nAJ M10 0 256) fun x6 M11 =>
  (pR M11 v0 5 7 (some x6)).bind fun M12 =>
  xcl (nAJ M12 0 9216) fun x7 M13 =>
  (pR M13 v0 5 8 (some x7)).bind fun M14 =>
  some ((), M14)
set_option maxRecDepth 20000 in
theorem k_f_Meetings_ctor (O : Nat → Option va_E) (f d : Nat) (v0 : Nat) (M : xM) : xZ oU O (d + 0) 8 0 [(0, .ref v0)] [] M (f_Meetings_ctor O f v0 M) := by
  unfold f_Meetings_ctor
  refine xZ.adv (me := xm8) hP_8 1 (pc' := 1) (lv' := [(0, .ref v0)]) (st' := [.ref v0]) rfl ?_
  refine xZ.obj (me := xm8) hP_8 rfl (Nat.le_of_ble_eq_true rfl) ?_
  refine xZ.adv (me := xm8) hP_8 2 (pc' := 8) (lv' := [(0, .ref v0)]) (st' := [.int (256 : Int32), .ref v0]) rfl ?_
  refine xZ.eqs (lv2 := [(0, .ref v0)]) (st2 := [.int (yw 256), .ref v0]) rfl (by simp only [yl_lit, yL_lit, yw_add, yw_sub, yw_mul, yw_neg, yl_add, yl_sub, yl_mul, cj_and, cj_or, cj_xor, cj_shl, cj_shr, cj_ushr, cj_div, cj_i2c, cj_i2b, cj_dc, ck_and, ck_or, ck_xor, ck_shl, ck_shr, ck_ushr, ck_i2l, ck_l2i, ck_cmp]) ?_
  refine xZ.k_nAJ (me := xm8) hP_8 rfl rfl (by decide) (fun x1 M1 => ?_)
  refine xZ.k_pR (x := (some x1)) (me := xm8) hP_8 rfl (fun M2 => ?_)
  refine xZ.adv (me := xm8) hP_8 2 (pc' := 17) (lv' := [(0, .ref v0)]) (st' := [.int (256 : Int32), .ref v0]) rfl ?_
  refine xZ.eqs (lv2 := [(0, .ref v0)]) (st2 := [.int (yw 256), .ref v0]) rfl (by simp only [yl_lit, yL_lit, yw_add, yw_sub, yw_mul, yw_neg, yl_add, yl_sub, yl_mul, cj_and, cj_or, cj_xor, cj_shl, cj_shr, cj_ushr, cj_div, cj_i2c, cj_i2b, cj_dc, ck_and, ck_or, ck_xor, ck_shl, ck_shr, ck_ushr, ck_i2l, ck_l2i, ck_cmp]) ?_
  refine xZ.k_nAJ (me := xm8) hP_8 rfl rfl (by decide) (fun x2 M3 => ?_)
  refine xZ.k_pR (x := (some x2)) (me := xm8) hP_8 rfl (fun M4 => ?_)
  refine xZ.adv (me := xm8) hP_8 2 (pc' := 26) (lv' := [(0, .ref v0)]) (st' := [.int (256 : Int32), .ref v0]) rfl ?_
  refine xZ.eqs (lv2 := [(0, .ref v0)]) (st2 := [.int (yw 256), .ref v0]) rfl (by simp only [yl_lit, yL_lit, yw_add, yw_sub, yw_mul, yw_neg, yl_add, yl_sub, yl_mul, cj_and, cj_or, cj_xor, cj_shl, cj_shr, cj_ushr, cj_div, cj_i2c, cj_i2b, cj_dc, ck_and, ck_or, ck_xor, ck_shl, ck_shr, ck_ushr, ck_i2l, ck_l2i, ck_cmp]) ?_
  refine xZ.k_nAJ (me := xm8) hP_8 rfl rfl (by decide) (fun x3 M5 => ?_)
  refine xZ.k_pR (x := (some x3)) (me := xm8) hP_8 rfl (fun M6 => ?_)
  refine xZ.adv (me := xm8) hP_8 2 (pc' := 33) (lv' := [(0, .ref v0)]) (st' := [.int (4 : Int32), .ref v0]) rfl ?_
  refine xZ.eqs (lv2 := [(0, .ref v0)]) (st2 := [.int (yw 4), .ref v0]) rfl (by simp only [yl_lit, yL_lit, yw_add, yw_sub, yw_mul, yw_neg, yl_add, yl_sub, yl_mul, cj_and, cj_or, cj_xor, cj_shl, cj_shr, cj_ushr, cj_div, cj_i2c, cj_i2b, cj_dc, ck_and, ck_or, ck_xor, ck_shl, ck_shr, ck_ushr, ck_i2l, ck_l2i, ck_cmp]) ?_
  refine xZ.k_nAJ (me := xm8) hP_8 rfl rfl (by decide) (fun x4 M7 => ?_)
  refine xZ.k_pR (x := (some x4)) (me := xm8) hP_8 rfl (fun M8 => ?_)
  refine xZ.adv (me := xm8) hP_8 2 (pc' := 42) (lv' := [(0, .ref v0)]) (st' := [.int (256 : Int32), .ref v0]) rfl ?_
  refine xZ.eqs (lv2 := [(0, .ref v0)]) (st2 := [.int (yw 256), .ref v0]) rfl (by simp only [yl_lit, yL_lit, yw_add, yw_sub, yw_mul, yw_neg, yl_add, yl_sub, yl_mul, cj_and, cj_or, cj_xor, cj_shl, cj_shr, cj_ushr, cj_div, cj_i2c, cj_i2b, cj_dc, ck_and, ck_or, ck_xor, ck_shl, ck_shr, ck_ushr, ck_i2l, ck_l2i, ck_cmp]) ?_
  refine xZ.k_nAJ (me := xm8) hP_8 rfl rfl (by decide) (fun x5 M9 => ?_)
  refine xZ.k_pR (x := (some x5)) (me := xm8) hP_8 rfl (fun M10 => ?_)
  refine xZ.adv (me := xm8) hP_8 2 (pc' := 51) (lv' := [(0, .ref v0)]) (st' := [.int (256 : Int32), .ref v0]) rfl ?_
  refine xZ.eqs (lv2 := [(0, .ref v0)]) (st2 := [.int (yw 256), .ref v0]) rfl (by simp only [yl_lit, yL_lit, yw_add, yw_sub, yw_mul, yw_neg, yl_add, yl_sub, yl_mul, cj_and, cj_or, cj_xor, cj_shl, cj_shr, cj_ushr, cj_div, cj_i2c, cj_i2b, cj_dc, ck_and, ck_or, ck_xor, ck_shl, ck_shr, ck_ushr, ck_i2l, ck_l2i, ck_cmp]) ?_
  refine xZ.k_nAJ (me := xm8) hP_8 rfl rfl (by decide) (fun x6 M11 => ?_)
  refine xZ.k_pR (x := (some x6)) (me := xm8) hP_8 rfl (fun M12 => ?_)
  refine xZ.adv (me := xm8) hP_8 2 (pc' := 60) (lv' := [(0, .ref v0)]) (st' := [.int (9216 : Int32), .ref v0]) rfl ?_
  refine xZ.eqs (lv2 := [(0, .ref v0)]) (st2 := [.int (yw 9216), .ref v0]) rfl (by simp only [yl_lit, yL_lit, yw_add, yw_sub, yw_mul, yw_neg, yl_add, yl_sub, yl_mul, cj_and, cj_or, cj_xor, cj_shl, cj_shr, cj_ushr, cj_div, cj_i2c, cj_i2b, cj_dc, ck_and, ck_or, ck_xor, ck_shl, ck_shr, ck_ushr, ck_i2l, ck_l2i, ck_cmp]) ?_
  refine xZ.k_nAJ (me := xm8) hP_8 rfl rfl (by decide) (fun x7 M13 => ?_)
  refine xZ.k_pR (x := (some x7)) (me := xm8) hP_8 rfl (fun M14 => ?_)
  exact xZ.retu (me := xm8) hP_8 rfl rfl
def f_Planner_ctor (O : Nat → Option va_E) (f : Nat) (v0 : Nat) (M : xM) : Option (Unit × xM) :=
  xcl (nAJ M 1 5) fun x1 M1 =>
  (pR M1 v0 7 2 (some x1)).bind fun M2 =>
  xcl (nAJ M2 0 5) fun x2 M3 =>
  (pR M3 v0 7 3 (some x2)).bind fun M4 =>
  xcl (nAJ M4 0 5) fun x3 M5 =>
  (pR M5 v0 7 4 (some x3)).bind fun M6 =>
  xcl (nAJ M6 0 5) fun x4 M7 =>
  (pR M7 v0 7 5 (some x4)).bind fun M8 =>
  xcl (nAJ M8 0 5) fun x5 M9 =>
  (pR M9 v0 7 6 (some x5)).bind fun M10 =>
  xcl (nAJ M10 0 5) fun x6 M11 =>
  (pR M11 v0 7 7 (some x6)).bind fun M12 =>
  some ((), M12)
set_option maxRecDepth 20000 in
theorem k_f_Planner_ctor (O : Nat → Option va_E) (f d : Nat) (v0 : Nat) (M : xM) : xZ oU O (d + 0) 9 0 [(0, .ref v0)] [] M (f_Planner_ctor O f v0 M) := by
  unfold f_Planner_ctor
  refine xZ.adv (me := xm9) hP_9 1 (pc' := 1) (lv' := [(0, .ref v0)]) (st' := [.ref v0]) rfl ?_
  refine xZ.obj (me := xm9) hP_9 rfl (Nat.le_of_ble_eq_true rfl) ?_
  refine xZ.adv (me := xm9) hP_9 2 (pc' := 6) (lv' := [(0, .ref v0)]) (st' := [.int (5 : Int32), .ref v0]) rfl ?_
  refine xZ.eqs (lv2 := [(0, .ref v0)]) (st2 := [.int (yw 5), .ref v0]) rfl (by simp only [yl_lit, yL_lit, yw_add, yw_sub, yw_mul, yw_neg, yl_add, yl_sub, yl_mul, cj_and, cj_or, cj_xor, cj_shl, cj_shr, cj_ushr, cj_div, cj_i2c, cj_i2b, cj_dc, ck_and, ck_or, ck_xor, ck_shl, ck_shr, ck_ushr, ck_i2l, ck_l2i, ck_cmp]) ?_
  refine xZ.k_nAJ (me := xm9) hP_9 rfl rfl (by decide) (fun x1 M1 => ?_)
  refine xZ.k_pR (x := (some x1)) (me := xm9) hP_9 rfl (fun M2 => ?_)
  refine xZ.adv (me := xm9) hP_9 2 (pc' := 13) (lv' := [(0, .ref v0)]) (st' := [.int (5 : Int32), .ref v0]) rfl ?_
  refine xZ.eqs (lv2 := [(0, .ref v0)]) (st2 := [.int (yw 5), .ref v0]) rfl (by simp only [yl_lit, yL_lit, yw_add, yw_sub, yw_mul, yw_neg, yl_add, yl_sub, yl_mul, cj_and, cj_or, cj_xor, cj_shl, cj_shr, cj_ushr, cj_div, cj_i2c, cj_i2b, cj_dc, ck_and, ck_or, ck_xor, ck_shl, ck_shr, ck_ushr, ck_i2l, ck_l2i, ck_cmp]) ?_
  refine xZ.k_nAJ (me := xm9) hP_9 rfl rfl (by decide) (fun x2 M3 => ?_)
  refine xZ.k_pR (x := (some x2)) (me := xm9) hP_9 rfl (fun M4 => ?_)
  refine xZ.adv (me := xm9) hP_9 2 (pc' := 20) (lv' := [(0, .ref v0)]) (st' := [.int (5 : Int32), .ref v0]) rfl ?_
  refine xZ.eqs (lv2 := [(0, .ref v0)]) (st2 := [.int (yw 5), .ref v0]) rfl (by simp only [yl_lit, yL_lit, yw_add, yw_sub, yw_mul, yw_neg, yl_add, yl_sub, yl_mul, cj_and, cj_or, cj_xor, cj_shl, cj_shr, cj_ushr, cj_div, cj_i2c, cj_i2b, cj_dc, ck_and, ck_or, ck_xor, ck_shl, ck_shr, ck_ushr, ck_i2l, ck_l2i, ck_cmp]) ?_
  refine xZ.k_nAJ (me := xm9) hP_9 rfl rfl (by decide) (fun x3 M5 => ?_)
  refine xZ.k_pR (x := (some x3)) (me := xm9) hP_9 rfl (fun M6 => ?_)
  refine xZ.adv (me := xm9) hP_9 2 (pc' := 27) (lv' := [(0, .ref v0)]) (st' := [.int (5 : Int32), .ref v0]) rfl ?_
  refine xZ.eqs (lv2 := [(0, .ref v0)]) (st2 := [.int (yw 5), .ref v0]) rfl (by simp only [yl_lit, yL_lit, yw_add, yw_sub, yw_mul, yw_neg, yl_add, yl_sub, yl_mul, cj_and, cj_or, cj_xor, cj_shl, cj_shr, cj_ushr, cj_div, cj_i2c, cj_i2b, cj_dc, ck_and, ck_or, ck_xor, ck_shl, ck_shr, ck_ushr, ck_i2l, ck_l2i, ck_cmp]) ?_
  refine xZ.k_nAJ (me := xm9) hP_9 rfl rfl (by decide) (fun x4 M7 => ?_)
  refine xZ.k_pR (x := (some x4)) (me := xm9) hP_9 rfl (fun M8 => ?_)
  refine xZ.adv (me := xm9) hP_9 2 (pc' := 34) (lv' := [(0, .ref v0)]) (st' := [.int (5 : Int32), .ref v0]) rfl ?_
  refine xZ.eqs (lv2 := [(0, .ref v0)]) (st2 := [.int (yw 5), .ref v0]) rfl (by simp only [yl_lit, yL_lit, yw_add, yw_sub, yw_mul, yw_neg, yl_add, yl_sub, yl_mul, cj_and, cj_or, cj_xor, cj_shl, cj_shr, cj_ushr, cj_div, cj_i2c, cj_i2b, cj_dc, ck_and, ck_or, ck_xor, ck_shl, ck_shr, ck_ushr, ck_i2l, ck_l2i, ck_cmp]) ?_
  refine xZ.k_nAJ (me := xm9) hP_9 rfl rfl (by decide) (fun x5 M9 => ?_)
  refine xZ.k_pR (x := (some x5)) (me := xm9) hP_9 rfl (fun M10 => ?_)
  refine xZ.adv (me := xm9) hP_9 2 (pc' := 41) (lv' := [(0, .ref v0)]) (st' := [.int (5 : Int32), .ref v0]) rfl ?_
  refine xZ.eqs (lv2 := [(0, .ref v0)]) (st2 := [.int (yw 5), .ref v0]) rfl (by simp only [yl_lit, yL_lit, yw_add, yw_sub, yw_mul, yw_neg, yl_add, yl_sub, yl_mul, cj_and, cj_or, cj_xor, cj_shl, cj_shr, cj_ushr, cj_div, cj_i2c, cj_i2b, cj_dc, ck_and, ck_or, ck_xor, ck_shl, ck_shr, ck_ushr, ck_i2l, ck_l2i, ck_cmp]) ?_
  refine xZ.k_nAJ (me := xm9) hP_9 rfl rfl (by decide) (fun x6 M11 => ?_)
  refine xZ.k_pR (x := (some x6)) (me := xm9) hP_9 rfl (fun M12 => ?_)
  exact xZ.retu (me := xm9) hP_9 rfl rfl
def f_Reader_ctor (O : Nat → Option va_E) (f : Nat) (v0 : Nat) (M : xM) : Option (Unit × xM) :=
  xcl (nO M 9) fun x1 M1 =>
  xcl (f_Rule_ctor O f x1 M1) fun _ M2 =>
  (pR M2 v0 8 1 (some x1)).bind fun M3 =>
  xcl (nAJ M3 4 120) fun x3 M4 =>
  (pR M4 v0 8 2 (some x3)).bind fun M5 =>
  some ((), M5)
set_option maxRecDepth 20000 in
theorem k_f_Reader_ctor (O : Nat → Option va_E) (f d : Nat) (v0 : Nat) (M : xM) : xZ oU O (d + 1) 10 0 [(0, .ref v0)] [] M (f_Reader_ctor O f v0 M) := by
  unfold f_Reader_ctor
  refine xZ.adv (me := xm10) hP_10 1 (pc' := 1) (lv' := [(0, .ref v0)]) (st' := [.ref v0]) rfl ?_
  refine xZ.obj (me := xm10) hP_10 rfl (Nat.le_of_ble_eq_true rfl) ?_
  refine xZ.adv (me := xm10) hP_10 1 (pc' := 5) (lv' := [(0, .ref v0)]) (st' := [.ref v0]) rfl ?_
  refine xZ.k_nO (me := xm10) hP_10 rfl rfl (fun x1 M1 => ?_)
  refine xZ.adv (me := xm10) hP_10 1 (pc' := 9) (lv' := [(0, .ref v0)]) (st' := [.ref x1, .ref x1, .ref v0]) rfl ?_
  refine xZ.calli (κ := oU) (av := []) (rest := [.ref x1, .ref v0]) (st' := fun _ => [.ref x1, .ref v0]) (k0 := x1) (me := xm10) hP_10 rfl (Or.inl rfl) rfl rfl (Nat.le_of_ble_eq_true rfl) (by decide) hP_5 (Nat.le_of_ble_eq_true rfl) (fun _ => rfl) (k_f_Rule_ctor O f (d + 0) x1 M1) (fun _ M2 => ?_)
  refine xZ.k_pR (x := (some x1)) (me := xm10) hP_10 rfl (fun M3 => ?_)
  refine xZ.adv (me := xm10) hP_10 2 (pc' := 18) (lv' := [(0, .ref v0)]) (st' := [.int (120 : Int32), .ref v0]) rfl ?_
  refine xZ.eqs (lv2 := [(0, .ref v0)]) (st2 := [.int (yw 120), .ref v0]) rfl (by simp only [yl_lit, yL_lit, yw_add, yw_sub, yw_mul, yw_neg, yl_add, yl_sub, yl_mul, cj_and, cj_or, cj_xor, cj_shl, cj_shr, cj_ushr, cj_div, cj_i2c, cj_i2b, cj_dc, ck_and, ck_or, ck_xor, ck_shl, ck_shr, ck_ushr, ck_i2l, ck_l2i, ck_cmp]) ?_
  refine xZ.k_nAJ (me := xm10) hP_10 rfl rfl (by decide) (fun x3 M4 => ?_)
  refine xZ.k_pR (x := (some x3)) (me := xm10) hP_10 rfl (fun M5 => ?_)
  exact xZ.retu (me := xm10) hP_10 rfl rfl
def f_AbstractStringBuilder_ctor (O : Nat → Option va_E) (f : Nat) (v0 : Nat) (v1 : Int) (M : xM) : Option (Unit × xM) :=
  if yw 1 = yw 0 then (
    none
  ) else
  xcl (nAJ M 3 v1) fun x1 M1 =>
  (pR M1 v0 1 0 (some x1)).bind fun M2 =>
  (pJ M2 v0 1 1 0).bind fun M3 =>
  some ((), M3)
set_option maxRecDepth 20000 in
theorem k_f_AbstractStringBuilder_ctor (O : Nat → Option va_E) (f d : Nat) (v0 : Nat) (v1 : Int) (M : xM) : xZ oU O (d + 0) 255 0 [(0, .ref v0), (1, .int (yw v1))] [] M (f_AbstractStringBuilder_ctor O f v0 v1 M) := by
  unfold f_AbstractStringBuilder_ctor
  refine xZ.adv (me := xm255) hP_255 1 (pc' := 1) (lv' := [(0, .ref v0), (1, .int (yw v1))]) (st' := [.ref v0]) rfl ?_
  refine xZ.obj (me := xm255) hP_255 rfl (Nat.le_of_ble_eq_true rfl) ?_
  refine xZ.adv (me := xm255) hP_255 1 (pc' := 7) (lv' := [(0, .ref v0), (1, .int (yw v1))]) (st' := [.int (1 : Int32)]) rfl ?_
  refine xZ.eqs (lv2 := [(0, .ref v0), (1, .int (yw v1))]) (st2 := [.int (yw 1)]) rfl (by simp only [yl_lit, yL_lit, yw_add, yw_sub, yw_mul, yw_neg, yl_add, yl_sub, yl_mul, cj_and, cj_or, cj_xor, cj_shl, cj_shr, cj_ushr, cj_div, cj_i2c, cj_i2b, cj_dc, ck_and, ck_or, ck_xor, ck_shl, ck_shr, ck_ushr, ck_i2l, ck_l2i, ck_cmp]) ?_
  refine xZ.jf_eq (me := xm255) hP_255 rfl (fun h1 => ?_) (fun h1 => ?_)
  · skip
    refine xZ.adv (me := xm255) hP_255 2 (pc' := 27) (lv' := [(0, .ref v0), (1, .int (yw v1))]) (st' := [.int (yw v1), .ref v0]) rfl ?_
    exact xZ.no
  · skip
    refine xZ.adv (me := xm255) hP_255 2 (pc' := 12) (lv' := [(0, .ref v0), (1, .int (yw v1))]) (st' := [.int (yw v1), .ref v0]) rfl ?_
    refine xZ.k_nAJ (me := xm255) hP_255 rfl rfl (by decide) (fun x1 M1 => ?_)
    refine xZ.k_pR (x := (some x1)) (me := xm255) hP_255 rfl (fun M2 => ?_)
    refine xZ.adv (me := xm255) hP_255 2 (pc' := 19) (lv' := [(0, .ref v0), (1, .int (yw v1))]) (st' := [.int (0 : Int32), .ref v0]) rfl ?_
    refine xZ.eqs (lv2 := [(0, .ref v0), (1, .int (yw v1))]) (st2 := [.int (yw 0), .ref v0]) rfl (by simp only [yl_lit, yL_lit, yw_add, yw_sub, yw_mul, yw_neg, yl_add, yl_sub, yl_mul, cj_and, cj_or, cj_xor, cj_shl, cj_shr, cj_ushr, cj_div, cj_i2c, cj_i2b, cj_dc, ck_and, ck_or, ck_xor, ck_shl, ck_shr, ck_ushr, ck_i2l, ck_l2i, ck_cmp]) ?_
    refine xZ.k_pJ (me := xm255) hP_255 rfl (fun M3 => ?_)
    refine xZ.adv (me := xm255) hP_255 1 (pc' := 38) (lv' := [(0, .ref v0), (1, .int (yw v1))]) (st' := []) rfl ?_
    exact xZ.retu (me := xm255) hP_255 rfl rfl
def f_StringBuilder_ctor (O : Nat → Option va_E) (f : Nat) (v0 : Nat) (M : xM) : Option (Unit × xM) :=
  xcl (f_AbstractStringBuilder_ctor O f v0 16 M) fun _ M1 =>
  some ((), M1)
set_option maxRecDepth 20000 in
theorem k_f_StringBuilder_ctor (O : Nat → Option va_E) (f d : Nat) (v0 : Nat) (M : xM) : xZ oU O (d + 1) 254 0 [(0, .ref v0)] [] M (f_StringBuilder_ctor O f v0 M) := by
  unfold f_StringBuilder_ctor
  refine xZ.adv (me := xm254) hP_254 2 (pc' := 3) (lv' := [(0, .ref v0)]) (st' := [.int (16 : Int32), .ref v0]) rfl ?_
  refine xZ.eqs (lv2 := [(0, .ref v0)]) (st2 := [.int (yw 16), .ref v0]) rfl (by simp only [yl_lit, yL_lit, yw_add, yw_sub, yw_mul, yw_neg, yl_add, yl_sub, yl_mul, cj_and, cj_or, cj_xor, cj_shl, cj_shr, cj_ushr, cj_div, cj_i2c, cj_i2b, cj_dc, ck_and, ck_or, ck_xor, ck_shl, ck_shr, ck_ushr, ck_i2l, ck_l2i, ck_cmp]) ?_
  refine xZ.calli (κ := oU) (av := [.int (yw 16)]) (rest := []) (st' := fun _ => []) (k0 := v0) (me := xm254) hP_254 rfl (Or.inl rfl) rfl rfl (Nat.le_of_ble_eq_true rfl) (by decide) hP_255 (Nat.le_of_ble_eq_true rfl) (fun _ => rfl) (k_f_AbstractStringBuilder_ctor O f (d + 0) v0 16 M) (fun _ M1 => ?_)
  exact xZ.retu (me := xm254) hP_254 rfl rfl
def f_Calendarhall_ctor_90 (O : Nat → Option va_E) (f : Nat) : Nat → Nat → Int → xM → Option (Unit × xM)
  | 0, _, _, _ => none
  | n + 1, v0, v1, M =>
    (gR O M v0 12 1).bind fun x1 =>
    (aJN O M x1).bind fun x2 =>
    if yw x2 ≤ yw v1 then (
      some ((), M)
    ) else
    (gR O M v0 12 1).bind fun x3 =>
    xcl (nO M 4) fun x4 M1 =>
    xcl (f_Hall_ctor O f x4 M1) fun _ M2 =>
    (wJR O M2 x3 v1 x4).bind fun M3 =>
    f_Calendarhall_ctor_90 O f n v0 (v1 + 1) M3
set_option maxRecDepth 20000 in
theorem k_f_Calendarhall_ctor_90 (O : Nat → Option va_E) (f d : Nat) : ∀ (n : Nat) (v0 : Nat) (v1 : Int) (M : xM), xZ oU O (d + 3) 0 90 [(0, .ref v0), (1, .int (yw v1))] [] M (f_Calendarhall_ctor_90 O f n v0 v1 M) := by
  intro n
  induction n with
  | zero =>
    intro v0 v1 M
    exact xZ.no
  | succ n ih =>
    intro v0 v1 M
    unfold f_Calendarhall_ctor_90
    refine xZ.adv (me := xm0) hP_0 2 (pc' := 92) (lv' := [(0, .ref v0), (1, .int (yw v1))]) (st' := [.ref v0, .int (yw v1)]) rfl ?_
    refine xZ.k_gR (me := xm0) hP_0 rfl (fun x1 => ?_)
    refine xZ.k_aJN (me := xm0) hP_0 rfl (fun x2 => ?_)
    refine xZ.jc_ge (me := xm0) hP_0 rfl (fun h1 => ?_) (fun h1 => ?_)
    · skip
      exact xZ.retu (me := xm0) hP_0 rfl rfl
    · skip
      refine xZ.adv (me := xm0) hP_0 1 (pc' := 100) (lv' := [(0, .ref v0), (1, .int (yw v1))]) (st' := [.ref v0]) rfl ?_
      refine xZ.k_gR (me := xm0) hP_0 rfl (fun x3 => ?_)
      refine xZ.adv (me := xm0) hP_0 1 (pc' := 104) (lv' := [(0, .ref v0), (1, .int (yw v1))]) (st' := [.int (yw v1), .ref x3]) rfl ?_
      refine xZ.k_nO (me := xm0) hP_0 rfl rfl (fun x4 M1 => ?_)
      refine xZ.adv (me := xm0) hP_0 1 (pc' := 108) (lv' := [(0, .ref v0), (1, .int (yw v1))]) (st' := [.ref x4, .ref x4, .int (yw v1), .ref x3]) rfl ?_
      refine xZ.calli (κ := oU) (av := []) (rest := [.ref x4, .int (yw v1), .ref x3]) (st' := fun _ => [.ref x4, .int (yw v1), .ref x3]) (k0 := x4) (me := xm0) hP_0 rfl (Or.inl rfl) rfl rfl (Nat.le_of_ble_eq_true rfl) (by decide) hP_1 (Nat.le_of_ble_eq_true rfl) (fun _ => rfl) (k_f_Hall_ctor O f (d + 0) x4 M1) (fun _ M2 => ?_)
      refine xZ.k_wJR (me := xm0) hP_0 rfl (fun M3 => ?_)
      refine xZ.adv (me := xm0) hP_0 2 (pc' := 90) (lv' := [(1, .int ((yw v1) + (1 : Int32))), (0, .ref v0)]) (st' := []) rfl ?_
      refine xZ.eqs (lv2 := [(1, .int (yw (v1 + 1))), (0, .ref v0)]) (st2 := []) (by simp only [yl_lit, yL_lit, yw_add, yw_sub, yw_mul, yw_neg, yl_add, yl_sub, yl_mul, cj_and, cj_or, cj_xor, cj_shl, cj_shr, cj_ushr, cj_div, cj_i2c, cj_i2b, cj_dc, ck_and, ck_or, ck_xor, ck_shl, ck_shr, ck_ushr, ck_i2l, ck_l2i, ck_cmp]) rfl ?_
      exact xZ.sub (xsc (.tail _ (.head _)) (xsc (.head _) xsn)) (show ([1, 0] : List Nat).Nodup from by decide) (ih v0 (v1 + 1) M3)
def f_Calendarhall_ctor (O : Nat → Option va_E) (f : Nat) (v0 : Nat) (M : xM) : Option (Unit × xM) :=
  xcl (nO M 4) fun x1 M1 =>
  xcl (f_Hall_ctor O f x1 M1) fun _ M2 =>
  (pR M2 v0 12 0 (some x1)).bind fun M3 =>
  xcl (nAJ M3 6 8) fun x3 M4 =>
  (pR M4 v0 12 1 (some x3)).bind fun M5 =>
  xcl (nO M5 2) fun x4 M6 =>
  xcl (f_Dates_ctor O f x4 M6) fun _ M7 =>
  (pR M7 v0 12 4 (some x4)).bind fun M8 =>
  xcl (nO M8 5) fun x6 M9 =>
  xcl (f_Meetings_ctor O f x6 M9) fun _ M10 =>
  (pR M10 v0 12 5 (some x6)).bind fun M11 =>
  xcl (nO M11 7) fun x8 M12 =>
  xcl (f_Planner_ctor O f x8 M12) fun _ M13 =>
  (pR M13 v0 12 6 (some x8)).bind fun M14 =>
  xcl (nO M14 8) fun x10 M15 =>
  xcl (f_Reader_ctor O f x10 M15) fun _ M16 =>
  (pR M16 v0 12 7 (some x10)).bind fun M17 =>
  xcl (nO M17 1) fun x12 M18 =>
  xcl (f_StringBuilder_ctor O f x12 M18) fun _ M19 =>
  (pR M19 v0 12 8 (some x12)).bind fun M20 =>
  xcl (nAJ M20 0 672) fun x14 M21 =>
  (pR M21 v0 12 9 (some x14)).bind fun M22 =>
  f_Calendarhall_ctor_90 O f f v0 0 M22
set_option maxRecDepth 20000 in
theorem k_f_Calendarhall_ctor (O : Nat → Option va_E) (f d : Nat) (v0 : Nat) (M : xM) : xZ oU O (d + 3) 0 0 [(0, .ref v0)] [] M (f_Calendarhall_ctor O f v0 M) := by
  unfold f_Calendarhall_ctor
  refine xZ.adv (me := xm0) hP_0 1 (pc' := 1) (lv' := [(0, .ref v0)]) (st' := [.ref v0]) rfl ?_
  refine xZ.obj (me := xm0) hP_0 rfl (Nat.le_of_ble_eq_true rfl) ?_
  refine xZ.adv (me := xm0) hP_0 1 (pc' := 5) (lv' := [(0, .ref v0)]) (st' := [.ref v0]) rfl ?_
  refine xZ.k_nO (me := xm0) hP_0 rfl rfl (fun x1 M1 => ?_)
  refine xZ.adv (me := xm0) hP_0 1 (pc' := 9) (lv' := [(0, .ref v0)]) (st' := [.ref x1, .ref x1, .ref v0]) rfl ?_
  refine xZ.calli (κ := oU) (av := []) (rest := [.ref x1, .ref v0]) (st' := fun _ => [.ref x1, .ref v0]) (k0 := x1) (me := xm0) hP_0 rfl (Or.inl rfl) rfl rfl (Nat.le_of_ble_eq_true rfl) (by decide) hP_1 (Nat.le_of_ble_eq_true rfl) (fun _ => rfl) (k_f_Hall_ctor O f (d + 0) x1 M1) (fun _ M2 => ?_)
  refine xZ.k_pR (x := (some x1)) (me := xm0) hP_0 rfl (fun M3 => ?_)
  refine xZ.adv (me := xm0) hP_0 2 (pc' := 18) (lv' := [(0, .ref v0)]) (st' := [.int (8 : Int32), .ref v0]) rfl ?_
  refine xZ.eqs (lv2 := [(0, .ref v0)]) (st2 := [.int (yw 8), .ref v0]) rfl (by simp only [yl_lit, yL_lit, yw_add, yw_sub, yw_mul, yw_neg, yl_add, yl_sub, yl_mul, cj_and, cj_or, cj_xor, cj_shl, cj_shr, cj_ushr, cj_div, cj_i2c, cj_i2b, cj_dc, ck_and, ck_or, ck_xor, ck_shl, ck_shr, ck_ushr, ck_i2l, ck_l2i, ck_cmp]) ?_
  refine xZ.nRj (me := xm0) hP_0 rfl (by decide) (fun x3 M4 => ?_)
  refine xZ.k_pR (x := (some x3)) (me := xm0) hP_0 rfl (fun M5 => ?_)
  refine xZ.adv (me := xm0) hP_0 1 (pc' := 25) (lv' := [(0, .ref v0)]) (st' := [.ref v0]) rfl ?_
  refine xZ.k_nO (me := xm0) hP_0 rfl rfl (fun x4 M6 => ?_)
  refine xZ.adv (me := xm0) hP_0 1 (pc' := 29) (lv' := [(0, .ref v0)]) (st' := [.ref x4, .ref x4, .ref v0]) rfl ?_
  refine xZ.calli (κ := oU) (av := []) (rest := [.ref x4, .ref v0]) (st' := fun _ => [.ref x4, .ref v0]) (k0 := x4) (me := xm0) hP_0 rfl (Or.inl rfl) rfl rfl (Nat.le_of_ble_eq_true rfl) (by decide) hP_7 (Nat.le_of_ble_eq_true rfl) (fun _ => rfl) (k_f_Dates_ctor O f (d + 2) x4 M6) (fun _ M7 => ?_)
  refine xZ.k_pR (x := (some x4)) (me := xm0) hP_0 rfl (fun M8 => ?_)
  refine xZ.adv (me := xm0) hP_0 1 (pc' := 36) (lv' := [(0, .ref v0)]) (st' := [.ref v0]) rfl ?_
  refine xZ.k_nO (me := xm0) hP_0 rfl rfl (fun x6 M9 => ?_)
  refine xZ.adv (me := xm0) hP_0 1 (pc' := 40) (lv' := [(0, .ref v0)]) (st' := [.ref x6, .ref x6, .ref v0]) rfl ?_
  refine xZ.calli (κ := oU) (av := []) (rest := [.ref x6, .ref v0]) (st' := fun _ => [.ref x6, .ref v0]) (k0 := x6) (me := xm0) hP_0 rfl (Or.inl rfl) rfl rfl (Nat.le_of_ble_eq_true rfl) (by decide) hP_8 (Nat.le_of_ble_eq_true rfl) (fun _ => rfl) (k_f_Meetings_ctor O f (d + 2) x6 M9) (fun _ M10 => ?_)
  refine xZ.k_pR (x := (some x6)) (me := xm0) hP_0 rfl (fun M11 => ?_)
  refine xZ.adv (me := xm0) hP_0 1 (pc' := 47) (lv' := [(0, .ref v0)]) (st' := [.ref v0]) rfl ?_
  refine xZ.k_nO (me := xm0) hP_0 rfl rfl (fun x8 M12 => ?_)
  refine xZ.adv (me := xm0) hP_0 1 (pc' := 51) (lv' := [(0, .ref v0)]) (st' := [.ref x8, .ref x8, .ref v0]) rfl ?_
  refine xZ.calli (κ := oU) (av := []) (rest := [.ref x8, .ref v0]) (st' := fun _ => [.ref x8, .ref v0]) (k0 := x8) (me := xm0) hP_0 rfl (Or.inl rfl) rfl rfl (Nat.le_of_ble_eq_true rfl) (by decide) hP_9 (Nat.le_of_ble_eq_true rfl) (fun _ => rfl) (k_f_Planner_ctor O f (d + 2) x8 M12) (fun _ M13 => ?_)
  refine xZ.k_pR (x := (some x8)) (me := xm0) hP_0 rfl (fun M14 => ?_)
  refine xZ.adv (me := xm0) hP_0 1 (pc' := 58) (lv' := [(0, .ref v0)]) (st' := [.ref v0]) rfl ?_
  refine xZ.k_nO (me := xm0) hP_0 rfl rfl (fun x10 M15 => ?_)
  refine xZ.adv (me := xm0) hP_0 1 (pc' := 62) (lv' := [(0, .ref v0)]) (st' := [.ref x10, .ref x10, .ref v0]) rfl ?_
  refine xZ.calli (κ := oU) (av := []) (rest := [.ref x10, .ref v0]) (st' := fun _ => [.ref x10, .ref v0]) (k0 := x10) (me := xm0) hP_0 rfl (Or.inl rfl) rfl rfl (Nat.le_of_ble_eq_true rfl) (by decide) hP_10 (Nat.le_of_ble_eq_true rfl) (fun _ => rfl) (k_f_Reader_ctor O f (d + 1) x10 M15) (fun _ M16 => ?_)
  refine xZ.k_pR (x := (some x10)) (me := xm0) hP_0 rfl (fun M17 => ?_)
  refine xZ.adv (me := xm0) hP_0 1 (pc' := 69) (lv' := [(0, .ref v0)]) (st' := [.ref v0]) rfl ?_
  refine xZ.k_nO (me := xm0) hP_0 rfl rfl (fun x12 M18 => ?_)
  refine xZ.adv (me := xm0) hP_0 1 (pc' := 73) (lv' := [(0, .ref v0)]) (st' := [.ref x12, .ref x12, .ref v0]) rfl ?_
  refine xZ.calli (κ := oU) (av := []) (rest := [.ref x12, .ref v0]) (st' := fun _ => [.ref x12, .ref v0]) (k0 := x12) (me := xm0) hP_0 rfl (Or.inl rfl) rfl rfl (Nat.le_of_ble_eq_true rfl) (by decide) hP_254 (Nat.le_of_ble_eq_true rfl) (fun _ => rfl) (k_f_StringBuilder_ctor O f (d + 1) x12 M18) (fun _ M19 => ?_)
  refine xZ.k_pR (x := (some x12)) (me := xm0) hP_0 rfl (fun M20 => ?_)
  refine xZ.adv (me := xm0) hP_0 2 (pc' := 83) (lv' := [(0, .ref v0)]) (st' := [.int (672 : Int32), .ref v0]) rfl ?_
  refine xZ.eqs (lv2 := [(0, .ref v0)]) (st2 := [.int (yw 672), .ref v0]) rfl (by simp only [yl_lit, yL_lit, yw_add, yw_sub, yw_mul, yw_neg, yl_add, yl_sub, yl_mul, cj_and, cj_or, cj_xor, cj_shl, cj_shr, cj_ushr, cj_div, cj_i2c, cj_i2b, cj_dc, ck_and, ck_or, ck_xor, ck_shl, ck_shr, ck_ushr, ck_i2l, ck_l2i, ck_cmp]) ?_
  refine xZ.k_nAJ (me := xm0) hP_0 rfl rfl (by decide) (fun x14 M21 => ?_)
  refine xZ.k_pR (x := (some x14)) (me := xm0) hP_0 rfl (fun M22 => ?_)
  refine xZ.adv (me := xm0) hP_0 2 (pc' := 90) (lv' := [(1, .int (0 : Int32)), (0, .ref v0)]) (st' := []) rfl ?_
  refine xZ.eqs (lv2 := [(1, .int (yw 0)), (0, .ref v0)]) (st2 := []) (by simp only [yl_lit, yL_lit, yw_add, yw_sub, yw_mul, yw_neg, yl_add, yl_sub, yl_mul, cj_and, cj_or, cj_xor, cj_shl, cj_shr, cj_ushr, cj_div, cj_i2c, cj_i2b, cj_dc, ck_and, ck_or, ck_xor, ck_shl, ck_shr, ck_ushr, ck_i2l, ck_l2i, ck_cmp]) rfl ?_
  exact xZ.sub (xsc (.tail _ (.head _)) (xsc (.head _) xsn)) (show ([1, 0] : List Nat).Nodup from by decide) (k_f_Calendarhall_ctor_90 O f d f v0 0 M22)
def f_LDraw_ctor_19 (O : Nat → Option va_E) (f : Nat) : Nat → Nat → Nat → Int → Int → xM → Option (Unit × xM)
  | 0, _, _, _, _, _ => none
  | n + 1, v0, v2, v3, v4, M =>
    if yw v3 ≤ yw v4 then (
      some ((), M)
    ) else
    (aJ O M v2 v4).bind fun x1 =>
    (gK O M v0 15 0).bind fun x2 =>
    (pK M v0 15 0 (((x2 + (ki2l x1)) * 6364136223846793005) + 1442695040888963407)).bind fun M1 =>
    f_LDraw_ctor_19 O f n v0 v2 v3 (v4 + 1) M1
set_option maxRecDepth 20000 in
theorem k_f_LDraw_ctor_19 (O : Nat → Option va_E) (f d : Nat) : ∀ (n : Nat) (v0 : Nat) (v2 : Nat) (v3 : Int) (v4 : Int) (M : xM), xZ oU O (d + 0) 11 19 [(0, .ref v0), (2, .ref v2), (3, .int (yw v3)), (4, .int (yw v4))] [] M (f_LDraw_ctor_19 O f n v0 v2 v3 v4 M) := by
  intro n
  induction n with
  | zero =>
    intro v0 v2 v3 v4 M
    exact xZ.no
  | succ n ih =>
    intro v0 v2 v3 v4 M
    unfold f_LDraw_ctor_19
    refine xZ.adv (me := xm11) hP_11 2 (pc' := 22) (lv' := [(0, .ref v0), (2, .ref v2), (3, .int (yw v3)), (4, .int (yw v4))]) (st' := [.int (yw v3), .int (yw v4)]) rfl ?_
    refine xZ.jc_ge (me := xm11) hP_11 rfl (fun h1 => ?_) (fun h1 => ?_)
    · skip
      exact xZ.retu (me := xm11) hP_11 rfl rfl
    · skip
      refine xZ.adv (me := xm11) hP_11 2 (pc' := 28) (lv' := [(0, .ref v0), (2, .ref v2), (3, .int (yw v3)), (4, .int (yw v4))]) (st' := [.int (yw v4), .ref v2]) rfl ?_
      refine xZ.k_aJ (me := xm11) hP_11 rfl (fun x1 => ?_)
      refine xZ.adv (me := xm11) hP_11 3 (pc' := 33) (lv' := [(5, .int (yw x1)), (0, .ref v0), (2, .ref v2), (3, .int (yw v3)), (4, .int (yw v4))]) (st' := [.ref v0, .ref v0]) rfl ?_
      refine xZ.k_gK (me := xm11) hP_11 rfl (fun x2 => ?_)
      refine xZ.adv (me := xm11) hP_11 7 (pc' := 48) (lv' := [(5, .int (yw x1)), (0, .ref v0), (2, .ref v2), (3, .int (yw v3)), (4, .int (yw v4))]) (st' := [.long ((((yl x2) + (Int32.toInt64 (yw x1))) * (6364136223846793005 : Int64)) + (1442695040888963407 : Int64)), .ref v0]) rfl ?_
      refine xZ.eqs (lv2 := [(5, .int (yw x1)), (0, .ref v0), (2, .ref v2), (3, .int (yw v3)), (4, .int (yw v4))]) (st2 := [.long (yl (((x2 + (ki2l x1)) * 6364136223846793005) + 1442695040888963407)), .ref v0]) rfl (by simp only [yl_lit, yL_lit, yw_add, yw_sub, yw_mul, yw_neg, yl_add, yl_sub, yl_mul, cj_and, cj_or, cj_xor, cj_shl, cj_shr, cj_ushr, cj_div, cj_i2c, cj_i2b, cj_dc, ck_and, ck_or, ck_xor, ck_shl, ck_shr, ck_ushr, ck_i2l, ck_l2i, ck_cmp]) ?_
      refine xZ.k_pK (me := xm11) hP_11 rfl (fun M1 => ?_)
      refine xZ.adv (me := xm11) hP_11 2 (pc' := 19) (lv' := [(4, .int ((yw v4) + (1 : Int32))), (5, .int (yw x1)), (0, .ref v0), (2, .ref v2), (3, .int (yw v3))]) (st' := []) rfl ?_
      refine xZ.eqs (lv2 := [(4, .int (yw (v4 + 1))), (5, .int (yw x1)), (0, .ref v0), (2, .ref v2), (3, .int (yw v3))]) (st2 := []) (by simp only [yl_lit, yL_lit, yw_add, yw_sub, yw_mul, yw_neg, yl_add, yl_sub, yl_mul, cj_and, cj_or, cj_xor, cj_shl, cj_shr, cj_ushr, cj_div, cj_i2c, cj_i2b, cj_dc, ck_and, ck_or, ck_xor, ck_shl, ck_shr, ck_ushr, ck_i2l, ck_l2i, ck_cmp]) rfl ?_
      exact xZ.sub (xsc (.tail _ (.tail _ (.head _))) (xsc (.tail _ (.tail _ (.tail _ (.head _)))) (xsc (.tail _ (.tail _ (.tail _ (.tail _ (.head _))))) (xsc (.head _) xsn)))) (show ([4, 5, 0, 2, 3] : List Nat).Nodup from by decide) (ih v0 v2 v3 (v4 + 1) M1)
def f_LDraw_ctor (O : Nat → Option va_E) (f : Nat) (v0 : Nat) (v1 : Nat) (M : xM) : Option (Unit × xM) :=
  (pK M v0 15 0 13).bind fun M1 =>
  (aJN O M1 v1).bind fun x1 =>
  f_LDraw_ctor_19 O f f v0 v1 x1 0 M1
set_option maxRecDepth 20000 in
theorem k_f_LDraw_ctor (O : Nat → Option va_E) (f d : Nat) (v0 : Nat) (v1 : Nat) (M : xM) : xZ oU O (d + 0) 11 0 [(0, .ref v0), (1, .ref v1)] [] M (f_LDraw_ctor O f v0 v1 M) := by
  unfold f_LDraw_ctor
  refine xZ.adv (me := xm11) hP_11 1 (pc' := 1) (lv' := [(0, .ref v0), (1, .ref v1)]) (st' := [.ref v0]) rfl ?_
  refine xZ.obj (me := xm11) hP_11 rfl (Nat.le_of_ble_eq_true rfl) ?_
  refine xZ.adv (me := xm11) hP_11 2 (pc' := 8) (lv' := [(0, .ref v0), (1, .ref v1)]) (st' := [.long (13 : Int64), .ref v0]) rfl ?_
  refine xZ.eqs (lv2 := [(0, .ref v0), (1, .ref v1)]) (st2 := [.long (yl 13), .ref v0]) rfl (by simp only [yl_lit, yL_lit, yw_add, yw_sub, yw_mul, yw_neg, yl_add, yl_sub, yl_mul, cj_and, cj_or, cj_xor, cj_shl, cj_shr, cj_ushr, cj_div, cj_i2c, cj_i2b, cj_dc, ck_and, ck_or, ck_xor, ck_shl, ck_shr, ck_ushr, ck_i2l, ck_l2i, ck_cmp]) ?_
  refine xZ.k_pK (me := xm11) hP_11 rfl (fun M1 => ?_)
  refine xZ.adv (me := xm11) hP_11 3 (pc' := 14) (lv' := [(2, .ref v1), (0, .ref v0), (1, .ref v1)]) (st' := [.ref v1]) rfl ?_
  refine xZ.k_aJN (me := xm11) hP_11 rfl (fun x1 => ?_)
  refine xZ.adv (me := xm11) hP_11 3 (pc' := 19) (lv' := [(4, .int (0 : Int32)), (3, .int (yw x1)), (2, .ref v1), (0, .ref v0), (1, .ref v1)]) (st' := []) rfl ?_
  refine xZ.eqs (lv2 := [(4, .int (yw 0)), (3, .int (yw x1)), (2, .ref v1), (0, .ref v0), (1, .ref v1)]) (st2 := []) (by simp only [yl_lit, yL_lit, yw_add, yw_sub, yw_mul, yw_neg, yl_add, yl_sub, yl_mul, cj_and, cj_or, cj_xor, cj_shl, cj_shr, cj_ushr, cj_div, cj_i2c, cj_i2b, cj_dc, ck_and, ck_or, ck_xor, ck_shl, ck_shr, ck_ushr, ck_i2l, ck_l2i, ck_cmp]) rfl ?_
  exact xZ.sub (xsc (.tail _ (.tail _ (.tail _ (.head _)))) (xsc (.tail _ (.tail _ (.head _))) (xsc (.tail _ (.head _)) (xsc (.head _) xsn)))) (show ([4, 3, 2, 0, 1] : List Nat).Nodup from by decide) (k_f_LDraw_ctor_19 O f d f v0 v1 x1 0 M1)
def f_LDraw_n (O : Nat → Option va_E) (f : Nat) (v0 : Nat) (v1 : Int) (M : xM) : Option (Int × xM) :=
  (gK O M v0 15 0).bind fun x1 =>
  (pK M v0 15 0 ((x1 * 6364136223846793005) + 1442695040888963407)).bind fun M1 =>
  (gK O M1 v0 15 0).bind fun x2 =>
  if yl (ki2l v1) = yl 0 then none else xlet ((kushr x2 (ki2l 33)) - (kdiv (kushr x2 (ki2l 33)) (ki2l v1)) * (ki2l v1)) fun x3 =>
  some (x3, M1)
set_option maxRecDepth 20000 in
theorem k_f_LDraw_n (O : Nat → Option va_E) (f d : Nat) (v0 : Nat) (v1 : Int) (M : xM) : xZ oJ O (d + 0) 12 0 [(0, .ref v0), (1, .int (yw v1))] [] M (f_LDraw_n O f v0 v1 M) := by
  unfold f_LDraw_n
  refine xZ.adv (me := xm12) hP_12 2 (pc' := 2) (lv' := [(0, .ref v0), (1, .int (yw v1))]) (st' := [.ref v0, .ref v0]) rfl ?_
  refine xZ.k_gK (me := xm12) hP_12 rfl (fun x1 => ?_)
  refine xZ.adv (me := xm12) hP_12 4 (pc' := 13) (lv' := [(0, .ref v0), (1, .int (yw v1))]) (st' := [.long (((yl x1) * (6364136223846793005 : Int64)) + (1442695040888963407 : Int64)), .ref v0]) rfl ?_
  refine xZ.eqs (lv2 := [(0, .ref v0), (1, .int (yw v1))]) (st2 := [.long (yl ((x1 * 6364136223846793005) + 1442695040888963407)), .ref v0]) rfl (by simp only [yl_lit, yL_lit, yw_add, yw_sub, yw_mul, yw_neg, yl_add, yl_sub, yl_mul, cj_and, cj_or, cj_xor, cj_shl, cj_shr, cj_ushr, cj_div, cj_i2c, cj_i2b, cj_dc, ck_and, ck_or, ck_xor, ck_shl, ck_shr, ck_ushr, ck_i2l, ck_l2i, ck_cmp]) ?_
  refine xZ.k_pK (me := xm12) hP_12 rfl (fun M1 => ?_)
  refine xZ.adv (me := xm12) hP_12 1 (pc' := 17) (lv' := [(0, .ref v0), (1, .int (yw v1))]) (st' := [.ref v0]) rfl ?_
  refine xZ.k_gK (me := xm12) hP_12 rfl (fun x2 => ?_)
  refine xZ.adv (me := xm12) hP_12 4 (pc' := 25) (lv' := [(0, .ref v0), (1, .int (yw v1))]) (st' := [.long (Int32.toInt64 (yw v1)), .long ((Int64.toUInt64 (yl x2) >>> ((Int32.toInt64 (33 : Int32)).toUInt64 &&& Int64.toUInt64 63)).toInt64)]) rfl ?_
  refine xZ.eqs (lv2 := [(0, .ref v0), (1, .int (yw v1))]) (st2 := [.long (yl (ki2l v1)), .long (yl (kushr x2 (ki2l 33)))]) rfl (by simp only [yl_lit, yL_lit, yw_add, yw_sub, yw_mul, yw_neg, yl_add, yl_sub, yl_mul, cj_and, cj_or, cj_xor, cj_shl, cj_shr, cj_ushr, cj_div, cj_i2c, cj_i2b, cj_dc, ck_and, ck_or, ck_xor, ck_shl, ck_shr, ck_ushr, ck_i2l, ck_l2i, ck_cmp]) ?_
  refine xZ.k_lrem (me := xm12) hP_12 rfl (fun x3 => ?_)
  refine xZ.adv (me := xm12) hP_12 1 (pc' := 27) (lv' := [(0, .ref v0), (1, .int (yw v1))]) (st' := [.int (Int64.toInt32 (yl x3))]) rfl ?_
  refine xZ.eqs (lv2 := [(0, .ref v0), (1, .int (yw v1))]) (st2 := [.int (yw x3)]) rfl (by simp only [yl_lit, yL_lit, yw_add, yw_sub, yw_mul, yw_neg, yl_add, yl_sub, yl_mul, cj_and, cj_or, cj_xor, cj_shl, cj_shr, cj_ushr, cj_div, cj_i2c, cj_i2b, cj_dc, ck_and, ck_or, ck_xor, ck_shl, ck_shr, ck_ushr, ck_i2l, ck_l2i, ck_cmp]) ?_
  exact xZ.jreti (me := xm12) hP_12 rfl rfl
def f_LDays_length_26 (O : Nat → Option va_E) (f : Nat) (v2 : Int) (s0 : Int) (M : xM) : Option (Int × xM) :=
  if yw v2 = yw 2 then (
    if yw s0 = yw 0 then (
      some (28, M)
    ) else
    some (29, M)
  ) else
  if yw v2 = yw 4 then (
    some (30, M)
  ) else
  if yw v2 = yw 6 then (
    some (30, M)
  ) else
  if yw v2 = yw 9 then (
    some (30, M)
  ) else
  if yw v2 = yw 11 then (
    some (30, M)
  ) else
  some (31, M)
set_option maxRecDepth 20000 in
theorem k_f_LDays_length_26 (O : Nat → Option va_E) (f d : Nat) (v2 : Int) (s0 : Int) (M : xM) : xZ oJ O (d + 0) 15 26 [(2, .int (yw v2))] [.int (yw s0)] M (f_LDays_length_26 O f v2 s0 M) := by
  unfold f_LDays_length_26
  refine xZ.adv (me := xm15) hP_15 3 (pc' := 29) (lv' := [(3, .int (yw s0)), (2, .int (yw v2))]) (st' := [.int (2 : Int32), .int (yw v2)]) rfl ?_
  refine xZ.eqs (lv2 := [(3, .int (yw s0)), (2, .int (yw v2))]) (st2 := [.int (yw 2), .int (yw v2)]) rfl (by simp only [yl_lit, yL_lit, yw_add, yw_sub, yw_mul, yw_neg, yl_add, yl_sub, yl_mul, cj_and, cj_or, cj_xor, cj_shl, cj_shr, cj_ushr, cj_div, cj_i2c, cj_i2b, cj_dc, ck_and, ck_or, ck_xor, ck_shl, ck_shr, ck_ushr, ck_i2l, ck_l2i, ck_cmp]) ?_
  refine xZ.jc_ne (me := xm15) hP_15 rfl (fun h1 => ?_) (fun h1 => ?_)
  · skip
    refine xZ.adv (me := xm15) hP_15 1 (pc' := 33) (lv' := [(3, .int (yw s0)), (2, .int (yw v2))]) (st' := [.int (yw s0)]) rfl ?_
    refine xZ.jf_eq (me := xm15) hP_15 rfl (fun h2 => ?_) (fun h2 => ?_)
    · skip
      refine xZ.adv (me := xm15) hP_15 2 (pc' := 76) (lv' := [(3, .int (yw s0)), (2, .int (yw v2))]) (st' := [.int (28 : Int32)]) rfl ?_
      refine xZ.eqs (lv2 := [(3, .int (yw s0)), (2, .int (yw v2))]) (st2 := [.int (yw 28)]) rfl (by simp only [yl_lit, yL_lit, yw_add, yw_sub, yw_mul, yw_neg, yl_add, yl_sub, yl_mul, cj_and, cj_or, cj_xor, cj_shl, cj_shr, cj_ushr, cj_div, cj_i2c, cj_i2b, cj_dc, ck_and, ck_or, ck_xor, ck_shl, ck_shr, ck_ushr, ck_i2l, ck_l2i, ck_cmp]) ?_
      exact xZ.jreti (me := xm15) hP_15 rfl rfl
    · skip
      refine xZ.adv (me := xm15) hP_15 2 (pc' := 76) (lv' := [(3, .int (yw s0)), (2, .int (yw v2))]) (st' := [.int (29 : Int32)]) rfl ?_
      refine xZ.eqs (lv2 := [(3, .int (yw s0)), (2, .int (yw v2))]) (st2 := [.int (yw 29)]) rfl (by simp only [yl_lit, yL_lit, yw_add, yw_sub, yw_mul, yw_neg, yl_add, yl_sub, yl_mul, cj_and, cj_or, cj_xor, cj_shl, cj_shr, cj_ushr, cj_div, cj_i2c, cj_i2b, cj_dc, ck_and, ck_or, ck_xor, ck_shl, ck_shr, ck_ushr, ck_i2l, ck_l2i, ck_cmp]) ?_
      exact xZ.jreti (me := xm15) hP_15 rfl rfl
  · skip
    refine xZ.adv (me := xm15) hP_15 2 (pc' := 48) (lv' := [(3, .int (yw s0)), (2, .int (yw v2))]) (st' := [.int (4 : Int32), .int (yw v2)]) rfl ?_
    refine xZ.eqs (lv2 := [(3, .int (yw s0)), (2, .int (yw v2))]) (st2 := [.int (yw 4), .int (yw v2)]) rfl (by simp only [yl_lit, yL_lit, yw_add, yw_sub, yw_mul, yw_neg, yl_add, yl_sub, yl_mul, cj_and, cj_or, cj_xor, cj_shl, cj_shr, cj_ushr, cj_div, cj_i2c, cj_i2b, cj_dc, ck_and, ck_or, ck_xor, ck_shl, ck_shr, ck_ushr, ck_i2l, ck_l2i, ck_cmp]) ?_
    refine xZ.jc_eq (me := xm15) hP_15 rfl (fun h3 => ?_) (fun h3 => ?_)
    · skip
      refine xZ.adv (me := xm15) hP_15 2 (pc' := 76) (lv' := [(3, .int (yw s0)), (2, .int (yw v2))]) (st' := [.int (30 : Int32)]) rfl ?_
      refine xZ.eqs (lv2 := [(3, .int (yw s0)), (2, .int (yw v2))]) (st2 := [.int (yw 30)]) rfl (by simp only [yl_lit, yL_lit, yw_add, yw_sub, yw_mul, yw_neg, yl_add, yl_sub, yl_mul, cj_and, cj_or, cj_xor, cj_shl, cj_shr, cj_ushr, cj_div, cj_i2c, cj_i2b, cj_dc, ck_and, ck_or, ck_xor, ck_shl, ck_shr, ck_ushr, ck_i2l, ck_l2i, ck_cmp]) ?_
      exact xZ.jreti (me := xm15) hP_15 rfl rfl
    · skip
      refine xZ.adv (me := xm15) hP_15 2 (pc' := 54) (lv' := [(3, .int (yw s0)), (2, .int (yw v2))]) (st' := [.int (6 : Int32), .int (yw v2)]) rfl ?_
      refine xZ.eqs (lv2 := [(3, .int (yw s0)), (2, .int (yw v2))]) (st2 := [.int (yw 6), .int (yw v2)]) rfl (by simp only [yl_lit, yL_lit, yw_add, yw_sub, yw_mul, yw_neg, yl_add, yl_sub, yl_mul, cj_and, cj_or, cj_xor, cj_shl, cj_shr, cj_ushr, cj_div, cj_i2c, cj_i2b, cj_dc, ck_and, ck_or, ck_xor, ck_shl, ck_shr, ck_ushr, ck_i2l, ck_l2i, ck_cmp]) ?_
      refine xZ.jc_eq (me := xm15) hP_15 rfl (fun h4 => ?_) (fun h4 => ?_)
      · skip
        refine xZ.adv (me := xm15) hP_15 2 (pc' := 76) (lv' := [(3, .int (yw s0)), (2, .int (yw v2))]) (st' := [.int (30 : Int32)]) rfl ?_
        refine xZ.eqs (lv2 := [(3, .int (yw s0)), (2, .int (yw v2))]) (st2 := [.int (yw 30)]) rfl (by simp only [yl_lit, yL_lit, yw_add, yw_sub, yw_mul, yw_neg, yl_add, yl_sub, yl_mul, cj_and, cj_or, cj_xor, cj_shl, cj_shr, cj_ushr, cj_div, cj_i2c, cj_i2b, cj_dc, ck_and, ck_or, ck_xor, ck_shl, ck_shr, ck_ushr, ck_i2l, ck_l2i, ck_cmp]) ?_
        exact xZ.jreti (me := xm15) hP_15 rfl rfl
      · skip
        refine xZ.adv (me := xm15) hP_15 2 (pc' := 60) (lv' := [(3, .int (yw s0)), (2, .int (yw v2))]) (st' := [.int (9 : Int32), .int (yw v2)]) rfl ?_
        refine xZ.eqs (lv2 := [(3, .int (yw s0)), (2, .int (yw v2))]) (st2 := [.int (yw 9), .int (yw v2)]) rfl (by simp only [yl_lit, yL_lit, yw_add, yw_sub, yw_mul, yw_neg, yl_add, yl_sub, yl_mul, cj_and, cj_or, cj_xor, cj_shl, cj_shr, cj_ushr, cj_div, cj_i2c, cj_i2b, cj_dc, ck_and, ck_or, ck_xor, ck_shl, ck_shr, ck_ushr, ck_i2l, ck_l2i, ck_cmp]) ?_
        refine xZ.jc_eq (me := xm15) hP_15 rfl (fun h5 => ?_) (fun h5 => ?_)
        · skip
          refine xZ.adv (me := xm15) hP_15 2 (pc' := 76) (lv' := [(3, .int (yw s0)), (2, .int (yw v2))]) (st' := [.int (30 : Int32)]) rfl ?_
          refine xZ.eqs (lv2 := [(3, .int (yw s0)), (2, .int (yw v2))]) (st2 := [.int (yw 30)]) rfl (by simp only [yl_lit, yL_lit, yw_add, yw_sub, yw_mul, yw_neg, yl_add, yl_sub, yl_mul, cj_and, cj_or, cj_xor, cj_shl, cj_shr, cj_ushr, cj_div, cj_i2c, cj_i2b, cj_dc, ck_and, ck_or, ck_xor, ck_shl, ck_shr, ck_ushr, ck_i2l, ck_l2i, ck_cmp]) ?_
          exact xZ.jreti (me := xm15) hP_15 rfl rfl
        · skip
          refine xZ.adv (me := xm15) hP_15 2 (pc' := 66) (lv' := [(3, .int (yw s0)), (2, .int (yw v2))]) (st' := [.int (11 : Int32), .int (yw v2)]) rfl ?_
          refine xZ.eqs (lv2 := [(3, .int (yw s0)), (2, .int (yw v2))]) (st2 := [.int (yw 11), .int (yw v2)]) rfl (by simp only [yl_lit, yL_lit, yw_add, yw_sub, yw_mul, yw_neg, yl_add, yl_sub, yl_mul, cj_and, cj_or, cj_xor, cj_shl, cj_shr, cj_ushr, cj_div, cj_i2c, cj_i2b, cj_dc, ck_and, ck_or, ck_xor, ck_shl, ck_shr, ck_ushr, ck_i2l, ck_l2i, ck_cmp]) ?_
          refine xZ.jc_ne (me := xm15) hP_15 rfl (fun h6 => ?_) (fun h6 => ?_)
          · skip
            refine xZ.adv (me := xm15) hP_15 2 (pc' := 76) (lv' := [(3, .int (yw s0)), (2, .int (yw v2))]) (st' := [.int (30 : Int32)]) rfl ?_
            refine xZ.eqs (lv2 := [(3, .int (yw s0)), (2, .int (yw v2))]) (st2 := [.int (yw 30)]) rfl (by simp only [yl_lit, yL_lit, yw_add, yw_sub, yw_mul, yw_neg, yl_add, yl_sub, yl_mul, cj_and, cj_or, cj_xor, cj_shl, cj_shr, cj_ushr, cj_div, cj_i2c, cj_i2b, cj_dc, ck_and, ck_or, ck_xor, ck_shl, ck_shr, ck_ushr, ck_i2l, ck_l2i, ck_cmp]) ?_
            exact xZ.jreti (me := xm15) hP_15 rfl rfl
          · skip
            refine xZ.adv (me := xm15) hP_15 1 (pc' := 76) (lv' := [(3, .int (yw s0)), (2, .int (yw v2))]) (st' := [.int (31 : Int32)]) rfl ?_
            refine xZ.eqs (lv2 := [(3, .int (yw s0)), (2, .int (yw v2))]) (st2 := [.int (yw 31)]) rfl (by simp only [yl_lit, yL_lit, yw_add, yw_sub, yw_mul, yw_neg, yl_add, yl_sub, yl_mul, cj_and, cj_or, cj_xor, cj_shl, cj_shr, cj_ushr, cj_div, cj_i2c, cj_i2b, cj_dc, ck_and, ck_or, ck_xor, ck_shl, ck_shr, ck_ushr, ck_i2l, ck_l2i, ck_cmp]) ?_
            exact xZ.jreti (me := xm15) hP_15 rfl rfl
def f_LDays_length_25 (O : Nat → Option va_E) (f : Nat) (v2 : Int) (M : xM) : Option (Int × xM) :=
  f_LDays_length_26 O f v2 0 M
set_option maxRecDepth 20000 in
theorem k_f_LDays_length_25 (O : Nat → Option va_E) (f d : Nat) (v2 : Int) (M : xM) : xZ oJ O (d + 0) 15 25 [(2, .int (yw v2))] [] M (f_LDays_length_25 O f v2 M) := by
  unfold f_LDays_length_25
  refine xZ.adv (me := xm15) hP_15 1 (pc' := 26) (lv' := [(2, .int (yw v2))]) (st' := [.int (0 : Int32)]) rfl ?_
  refine xZ.eqs (lv2 := [(2, .int (yw v2))]) (st2 := [.int (yw 0)]) rfl (by simp only [yl_lit, yL_lit, yw_add, yw_sub, yw_mul, yw_neg, yl_add, yl_sub, yl_mul, cj_and, cj_or, cj_xor, cj_shl, cj_shr, cj_ushr, cj_div, cj_i2c, cj_i2b, cj_dc, ck_and, ck_or, ck_xor, ck_shl, ck_shr, ck_ushr, ck_i2l, ck_l2i, ck_cmp]) ?_
  exact (k_f_LDays_length_26 O f d v2 0 M)
def f_LDays_length_21 (O : Nat → Option va_E) (f : Nat) (v2 : Int) (M : xM) : Option (Int × xM) :=
  f_LDays_length_26 O f v2 1 M
set_option maxRecDepth 20000 in
theorem k_f_LDays_length_21 (O : Nat → Option va_E) (f d : Nat) (v2 : Int) (M : xM) : xZ oJ O (d + 0) 15 21 [(2, .int (yw v2))] [] M (f_LDays_length_21 O f v2 M) := by
  unfold f_LDays_length_21
  refine xZ.adv (me := xm15) hP_15 2 (pc' := 26) (lv' := [(2, .int (yw v2))]) (st' := [.int (1 : Int32)]) rfl ?_
  refine xZ.eqs (lv2 := [(2, .int (yw v2))]) (st2 := [.int (yw 1)]) rfl (by simp only [yl_lit, yL_lit, yw_add, yw_sub, yw_mul, yw_neg, yl_add, yl_sub, yl_mul, cj_and, cj_or, cj_xor, cj_shl, cj_shr, cj_ushr, cj_div, cj_i2c, cj_i2b, cj_dc, ck_and, ck_or, ck_xor, ck_shl, ck_shr, ck_ushr, ck_i2l, ck_l2i, ck_cmp]) ?_
  exact (k_f_LDays_length_26 O f d v2 1 M)
def f_LDays_length (O : Nat → Option va_E) (f : Nat) (v0 : Nat) (v1 : Int) (v2 : Int) (M : xM) : Option (Int × xM) :=
  if yw (v1 - (jdiv v1 400) * 400) = yw 0 then (
    f_LDays_length_21 O f v2 M
  ) else
  if yw (v1 - (jdiv v1 4) * 4) = yw 0 then (
    if yw (v1 - (jdiv v1 100) * 100) = yw 0 then (
      f_LDays_length_25 O f v2 M
    ) else
    f_LDays_length_21 O f v2 M
  ) else
  f_LDays_length_25 O f v2 M
set_option maxRecDepth 20000 in
theorem k_f_LDays_length (O : Nat → Option va_E) (f d : Nat) (v0 : Nat) (v1 : Int) (v2 : Int) (M : xM) : xZ oJ O (d + 0) 15 0 [(0, .ref v0), (1, .int (yw v1)), (2, .int (yw v2))] [] M (f_LDays_length O f v0 v1 v2 M) := by
  unfold f_LDays_length
  refine xZ.adv (me := xm15) hP_15 3 (pc' := 5) (lv' := [(0, .ref v0), (1, .int (yw v1)), (2, .int (yw v2))]) (st' := [.int ((yw v1) - (yw v1) / (400 : Int32) * (400 : Int32))]) rfl ?_
  refine xZ.eqs (lv2 := [(0, .ref v0), (1, .int (yw v1)), (2, .int (yw v2))]) (st2 := [.int (yw (v1 - (jdiv v1 400) * 400))]) rfl (by simp only [yl_lit, yL_lit, yw_add, yw_sub, yw_mul, yw_neg, yl_add, yl_sub, yl_mul, cj_and, cj_or, cj_xor, cj_shl, cj_shr, cj_ushr, cj_div, cj_i2c, cj_i2b, cj_dc, ck_and, ck_or, ck_xor, ck_shl, ck_shr, ck_ushr, ck_i2l, ck_l2i, ck_cmp]) ?_
  refine xZ.jf_eq (me := xm15) hP_15 rfl (fun h1 => ?_) (fun h1 => ?_)
  · skip
    exact xZ.sub (xsc (.tail _ (.tail _ (.head _))) xsn) (show ([0, 1, 2] : List Nat).Nodup from by decide) (k_f_LDays_length_21 O f d v2 M)
  · skip
    refine xZ.adv (me := xm15) hP_15 3 (pc' := 11) (lv' := [(0, .ref v0), (1, .int (yw v1)), (2, .int (yw v2))]) (st' := [.int ((yw v1) - (yw v1) / (4 : Int32) * (4 : Int32))]) rfl ?_
    refine xZ.eqs (lv2 := [(0, .ref v0), (1, .int (yw v1)), (2, .int (yw v2))]) (st2 := [.int (yw (v1 - (jdiv v1 4) * 4))]) rfl (by simp only [yl_lit, yL_lit, yw_add, yw_sub, yw_mul, yw_neg, yl_add, yl_sub, yl_mul, cj_and, cj_or, cj_xor, cj_shl, cj_shr, cj_ushr, cj_div, cj_i2c, cj_i2b, cj_dc, ck_and, ck_or, ck_xor, ck_shl, ck_shr, ck_ushr, ck_i2l, ck_l2i, ck_cmp]) ?_
    refine xZ.jf_ne (me := xm15) hP_15 rfl (fun h2 => ?_) (fun h2 => ?_)
    · skip
      refine xZ.adv (me := xm15) hP_15 3 (pc' := 18) (lv' := [(0, .ref v0), (1, .int (yw v1)), (2, .int (yw v2))]) (st' := [.int ((yw v1) - (yw v1) / (100 : Int32) * (100 : Int32))]) rfl ?_
      refine xZ.eqs (lv2 := [(0, .ref v0), (1, .int (yw v1)), (2, .int (yw v2))]) (st2 := [.int (yw (v1 - (jdiv v1 100) * 100))]) rfl (by simp only [yl_lit, yL_lit, yw_add, yw_sub, yw_mul, yw_neg, yl_add, yl_sub, yl_mul, cj_and, cj_or, cj_xor, cj_shl, cj_shr, cj_ushr, cj_div, cj_i2c, cj_i2b, cj_dc, ck_and, ck_or, ck_xor, ck_shl, ck_shr, ck_ushr, ck_i2l, ck_l2i, ck_cmp]) ?_
      refine xZ.jf_eq (me := xm15) hP_15 rfl (fun h3 => ?_) (fun h3 => ?_)
      · skip
        exact xZ.sub (xsc (.tail _ (.tail _ (.head _))) xsn) (show ([0, 1, 2] : List Nat).Nodup from by decide) (k_f_LDays_length_25 O f d v2 M)
      · skip
        exact xZ.sub (xsc (.tail _ (.tail _ (.head _))) xsn) (show ([0, 1, 2] : List Nat).Nodup from by decide) (k_f_LDays_length_21 O f d v2 M)
    · skip
      exact xZ.sub (xsc (.tail _ (.tail _ (.head _))) xsn) (show ([0, 1, 2] : List Nat).Nodup from by decide) (k_f_LDays_length_25 O f d v2 M)
def f_LDays_ctor_112 (O : Nat → Option va_E) (f : Nat) (K51 : Nat → Int → Int → Int → Int → xM → Option (Unit × xM)) (v0 : Nat) (v1 : Int) (v2 : Int) (v3 : Int) (v4 : Int) (s0 : Nat) (s1 : Int) (s2 : Int) (M : xM) : Option (Unit × xM) :=
  (wJ M s0 s1 s2).bind fun M1 =>
  (isO O M1 v0 14).bind fun _ =>
  xcl (f_LDays_length O f v0 v1 v2 M1) fun x1 M2 =>
  if yw x1 < yw (v3 + 1) then (
    if yw 12 < yw (v2 + 1) then (
      K51 v0 (v1 + 1) 1 1 (v4 + 1) M2
    ) else
    K51 v0 v1 (v2 + 1) 1 (v4 + 1) M2
  ) else
  K51 v0 v1 v2 (v3 + 1) (v4 + 1) M2
set_option maxRecDepth 20000 in
theorem k_f_LDays_ctor_112 (O : Nat → Option va_E) (f d : Nat) (K51 : Nat → Int → Int → Int → Int → xM → Option (Unit × xM)) (hK51 : ∀ (v0 : Nat) (v1 : Int) (v2 : Int) (v3 : Int) (v4 : Int) M, xZ oU O (d + 1) 14 51 [(0, .ref v0), (1, .int (yw v1)), (2, .int (yw v2)), (3, .int (yw v3)), (4, .int (yw v4))] [] M (K51 v0 v1 v2 v3 v4 M)) (v0 : Nat) (v1 : Int) (v2 : Int) (v3 : Int) (v4 : Int) (s0 : Nat) (s1 : Int) (s2 : Int) (M : xM) : xZ oU O (d + 1) 14 112 [(0, .ref v0), (1, .int (yw v1)), (2, .int (yw v2)), (3, .int (yw v3)), (4, .int (yw v4))] [.int (yw s2), .int (yw s1), .ref s0] M (f_LDays_ctor_112 O f K51 v0 v1 v2 v3 v4 s0 s1 s2 M) := by
  unfold f_LDays_ctor_112
  refine xZ.k_wJ (me := xm14) hP_14 rfl (fun M1 => ?_)
  refine xZ.adv (me := xm14) hP_14 5 (pc' := 120) (lv' := [(3, .int ((yw v3) + (1 : Int32))), (0, .ref v0), (1, .int (yw v1)), (2, .int (yw v2)), (4, .int (yw v4))]) (st' := [.int (yw v2), .int (yw v1), .ref v0, .int ((yw v3) + (1 : Int32))]) rfl ?_
  refine xZ.eqs (lv2 := [(3, .int (yw (v3 + 1))), (0, .ref v0), (1, .int (yw v1)), (2, .int (yw v2)), (4, .int (yw v4))]) (st2 := [.int (yw v2), .int (yw v1), .ref v0, .int (yw (v3 + 1))]) (by simp only [yl_lit, yL_lit, yw_add, yw_sub, yw_mul, yw_neg, yl_add, yl_sub, yl_mul, cj_and, cj_or, cj_xor, cj_shl, cj_shr, cj_ushr, cj_div, cj_i2c, cj_i2b, cj_dc, ck_and, ck_or, ck_xor, ck_shl, ck_shr, ck_ushr, ck_i2l, ck_l2i, ck_cmp]) (by simp only [yl_lit, yL_lit, yw_add, yw_sub, yw_mul, yw_neg, yl_add, yl_sub, yl_mul, cj_and, cj_or, cj_xor, cj_shl, cj_shr, cj_ushr, cj_div, cj_i2c, cj_i2b, cj_dc, ck_and, ck_or, ck_xor, ck_shl, ck_shr, ck_ushr, ck_i2l, ck_l2i, ck_cmp]) ?_
  refine xZ.callv (κ := oJ) (av := [.int (yw v1), .int (yw v2)]) (rest := [.int (yw (v3 + 1))]) (st' := fun x1 => [.int (yw x1), .int (yw (v3 + 1))]) (k0 := v0) (me := xm14) hP_14 rfl (Or.inl rfl) ⟨rfl, by decide⟩ rfl rfl (Nat.le_of_ble_eq_true rfl) (by decide) hP_15 (Nat.le_of_ble_eq_true rfl) (fun _ => rfl) (k_f_LDays_length O f (d + 0) v0 v1 v2 M1) (fun x1 M2 => ?_)
  refine xZ.jc_gt (me := xm14) hP_14 rfl (fun h1 => ?_) (fun h1 => ?_)
  · skip
    refine xZ.adv (me := xm14) hP_14 5 (pc' := 137) (lv' := [(2, .int ((yw v2) + (1 : Int32))), (3, .int (1 : Int32)), (0, .ref v0), (1, .int (yw v1)), (4, .int (yw v4))]) (st' := [.int (12 : Int32), .int ((yw v2) + (1 : Int32))]) rfl ?_
    refine xZ.eqs (lv2 := [(2, .int (yw (v2 + 1))), (3, .int (yw 1)), (0, .ref v0), (1, .int (yw v1)), (4, .int (yw v4))]) (st2 := [.int (yw 12), .int (yw (v2 + 1))]) (by simp only [yl_lit, yL_lit, yw_add, yw_sub, yw_mul, yw_neg, yl_add, yl_sub, yl_mul, cj_and, cj_or, cj_xor, cj_shl, cj_shr, cj_ushr, cj_div, cj_i2c, cj_i2b, cj_dc, ck_and, ck_or, ck_xor, ck_shl, ck_shr, ck_ushr, ck_i2l, ck_l2i, ck_cmp]) (by simp only [yl_lit, yL_lit, yw_add, yw_sub, yw_mul, yw_neg, yl_add, yl_sub, yl_mul, cj_and, cj_or, cj_xor, cj_shl, cj_shr, cj_ushr, cj_div, cj_i2c, cj_i2b, cj_dc, ck_and, ck_or, ck_xor, ck_shl, ck_shr, ck_ushr, ck_i2l, ck_l2i, ck_cmp]) ?_
    refine xZ.jc_gt (me := xm14) hP_14 rfl (fun h2 => ?_) (fun h2 => ?_)
    · skip
      refine xZ.adv (me := xm14) hP_14 5 (pc' := 51) (lv' := [(4, .int ((yw v4) + (1 : Int32))), (1, .int ((yw v1) + (1 : Int32))), (2, .int (1 : Int32)), (3, .int (yw 1)), (0, .ref v0)]) (st' := []) rfl ?_
      refine xZ.eqs (lv2 := [(4, .int (yw (v4 + 1))), (1, .int (yw (v1 + 1))), (2, .int (yw 1)), (3, .int (yw 1)), (0, .ref v0)]) (st2 := []) (by simp only [yl_lit, yL_lit, yw_add, yw_sub, yw_mul, yw_neg, yl_add, yl_sub, yl_mul, cj_and, cj_or, cj_xor, cj_shl, cj_shr, cj_ushr, cj_div, cj_i2c, cj_i2b, cj_dc, ck_and, ck_or, ck_xor, ck_shl, ck_shr, ck_ushr, ck_i2l, ck_l2i, ck_cmp]) rfl ?_
      exact xZ.sub (xsc (.tail _ (.tail _ (.tail _ (.tail _ (.head _))))) (xsc (.tail _ (.head _)) (xsc (.tail _ (.tail _ (.head _))) (xsc (.tail _ (.tail _ (.tail _ (.head _)))) (xsc (.head _) xsn))))) (show ([4, 1, 2, 3, 0] : List Nat).Nodup from by decide) (hK51 v0 (v1 + 1) 1 1 (v4 + 1) M2)
    · skip
      refine xZ.adv (me := xm14) hP_14 3 (pc' := 51) (lv' := [(4, .int ((yw v4) + (1 : Int32))), (2, .int (yw (v2 + 1))), (3, .int (yw 1)), (0, .ref v0), (1, .int (yw v1))]) (st' := []) rfl ?_
      refine xZ.eqs (lv2 := [(4, .int (yw (v4 + 1))), (2, .int (yw (v2 + 1))), (3, .int (yw 1)), (0, .ref v0), (1, .int (yw v1))]) (st2 := []) (by simp only [yl_lit, yL_lit, yw_add, yw_sub, yw_mul, yw_neg, yl_add, yl_sub, yl_mul, cj_and, cj_or, cj_xor, cj_shl, cj_shr, cj_ushr, cj_div, cj_i2c, cj_i2b, cj_dc, ck_and, ck_or, ck_xor, ck_shl, ck_shr, ck_ushr, ck_i2l, ck_l2i, ck_cmp]) rfl ?_
      exact xZ.sub (xsc (.tail _ (.tail _ (.tail _ (.head _)))) (xsc (.tail _ (.tail _ (.tail _ (.tail _ (.head _))))) (xsc (.tail _ (.head _)) (xsc (.tail _ (.tail _ (.head _))) (xsc (.head _) xsn))))) (show ([4, 2, 3, 0, 1] : List Nat).Nodup from by decide) (hK51 v0 v1 (v2 + 1) 1 (v4 + 1) M2)
  · skip
    refine xZ.adv (me := xm14) hP_14 3 (pc' := 51) (lv' := [(4, .int ((yw v4) + (1 : Int32))), (3, .int (yw (v3 + 1))), (0, .ref v0), (1, .int (yw v1)), (2, .int (yw v2))]) (st' := []) rfl ?_
    refine xZ.eqs (lv2 := [(4, .int (yw (v4 + 1))), (3, .int (yw (v3 + 1))), (0, .ref v0), (1, .int (yw v1)), (2, .int (yw v2))]) (st2 := []) (by simp only [yl_lit, yL_lit, yw_add, yw_sub, yw_mul, yw_neg, yl_add, yl_sub, yl_mul, cj_and, cj_or, cj_xor, cj_shl, cj_shr, cj_ushr, cj_div, cj_i2c, cj_i2b, cj_dc, ck_and, ck_or, ck_xor, ck_shl, ck_shr, ck_ushr, ck_i2l, ck_l2i, ck_cmp]) rfl ?_
    exact xZ.sub (xsc (.tail _ (.tail _ (.head _))) (xsc (.tail _ (.tail _ (.tail _ (.head _)))) (xsc (.tail _ (.tail _ (.tail _ (.tail _ (.head _))))) (xsc (.tail _ (.head _)) (xsc (.head _) xsn))))) (show ([4, 3, 0, 1, 2] : List Nat).Nodup from by decide) (hK51 v0 v1 v2 (v3 + 1) (v4 + 1) M2)
def f_LDays_ctor_51 (O : Nat → Option va_E) (f : Nat) : Nat → Nat → Int → Int → Int → Int → xM → Option (Unit × xM)
  | 0, _, _, _, _, _, _ => none
  | n + 1, v0, v1, v2, v3, v4, M =>
    if yw 6000 ≤ yw v4 then (
      some ((), M)
    ) else
    (gR O M v0 14 0).bind fun x1 =>
    (wJ M x1 v4 v1).bind fun M1 =>
    (gR O M1 v0 14 1).bind fun x2 =>
    (wJ M1 x2 v4 v2).bind fun M2 =>
    (gR O M2 v0 14 2).bind fun x3 =>
    (wJ M2 x3 v4 v3).bind fun M3 =>
    (gR O M3 v0 14 3).bind fun x4 =>
    if yw v4 = yw 0 then (
      f_LDays_ctor_112 O f (f_LDays_ctor_51 O f n) v0 v1 v2 v3 v4 x4 v4 5 M3
    ) else
    (gR O M3 v0 14 3).bind fun x5 =>
    (aJ O M3 x5 (v4 - 1)).bind fun x6 =>
    f_LDays_ctor_112 O f (f_LDays_ctor_51 O f n) v0 v1 v2 v3 v4 x4 v4 ((x6 + 1) - (jdiv (x6 + 1) 7) * 7) M3
set_option maxRecDepth 20000 in
theorem k_f_LDays_ctor_51 (O : Nat → Option va_E) (f d : Nat) : ∀ (n : Nat) (v0 : Nat) (v1 : Int) (v2 : Int) (v3 : Int) (v4 : Int) (M : xM), xZ oU O (d + 1) 14 51 [(0, .ref v0), (1, .int (yw v1)), (2, .int (yw v2)), (3, .int (yw v3)), (4, .int (yw v4))] [] M (f_LDays_ctor_51 O f n v0 v1 v2 v3 v4 M) := by
  intro n
  induction n with
  | zero =>
    intro v0 v1 v2 v3 v4 M
    exact xZ.no
  | succ n ih =>
    intro v0 v1 v2 v3 v4 M
    unfold f_LDays_ctor_51
    refine xZ.adv (me := xm14) hP_14 2 (pc' := 56) (lv' := [(0, .ref v0), (1, .int (yw v1)), (2, .int (yw v2)), (3, .int (yw v3)), (4, .int (yw v4))]) (st' := [.int (6000 : Int32), .int (yw v4)]) rfl ?_
    refine xZ.eqs (lv2 := [(0, .ref v0), (1, .int (yw v1)), (2, .int (yw v2)), (3, .int (yw v3)), (4, .int (yw v4))]) (st2 := [.int (yw 6000), .int (yw v4)]) rfl (by simp only [yl_lit, yL_lit, yw_add, yw_sub, yw_mul, yw_neg, yl_add, yl_sub, yl_mul, cj_and, cj_or, cj_xor, cj_shl, cj_shr, cj_ushr, cj_div, cj_i2c, cj_i2b, cj_dc, ck_and, ck_or, ck_xor, ck_shl, ck_shr, ck_ushr, ck_i2l, ck_l2i, ck_cmp]) ?_
    refine xZ.jc_ge (me := xm14) hP_14 rfl (fun h1 => ?_) (fun h1 => ?_)
    · skip
      exact xZ.retu (me := xm14) hP_14 rfl rfl
    · skip
      refine xZ.adv (me := xm14) hP_14 1 (pc' := 60) (lv' := [(0, .ref v0), (1, .int (yw v1)), (2, .int (yw v2)), (3, .int (yw v3)), (4, .int (yw v4))]) (st' := [.ref v0]) rfl ?_
      refine xZ.k_gR (me := xm14) hP_14 rfl (fun x1 => ?_)
      refine xZ.adv (me := xm14) hP_14 2 (pc' := 66) (lv' := [(0, .ref v0), (1, .int (yw v1)), (2, .int (yw v2)), (3, .int (yw v3)), (4, .int (yw v4))]) (st' := [.int (yw v1), .int (yw v4), .ref x1]) rfl ?_
      refine xZ.k_wJ (me := xm14) hP_14 rfl (fun M1 => ?_)
      refine xZ.adv (me := xm14) hP_14 1 (pc' := 68) (lv' := [(0, .ref v0), (1, .int (yw v1)), (2, .int (yw v2)), (3, .int (yw v3)), (4, .int (yw v4))]) (st' := [.ref v0]) rfl ?_
      refine xZ.k_gR (me := xm14) hP_14 rfl (fun x2 => ?_)
      refine xZ.adv (me := xm14) hP_14 2 (pc' := 74) (lv' := [(0, .ref v0), (1, .int (yw v1)), (2, .int (yw v2)), (3, .int (yw v3)), (4, .int (yw v4))]) (st' := [.int (yw v2), .int (yw v4), .ref x2]) rfl ?_
      refine xZ.k_wJ (me := xm14) hP_14 rfl (fun M2 => ?_)
      refine xZ.adv (me := xm14) hP_14 1 (pc' := 76) (lv' := [(0, .ref v0), (1, .int (yw v1)), (2, .int (yw v2)), (3, .int (yw v3)), (4, .int (yw v4))]) (st' := [.ref v0]) rfl ?_
      refine xZ.k_gR (me := xm14) hP_14 rfl (fun x3 => ?_)
      refine xZ.adv (me := xm14) hP_14 2 (pc' := 82) (lv' := [(0, .ref v0), (1, .int (yw v1)), (2, .int (yw v2)), (3, .int (yw v3)), (4, .int (yw v4))]) (st' := [.int (yw v3), .int (yw v4), .ref x3]) rfl ?_
      refine xZ.k_wJ (me := xm14) hP_14 rfl (fun M3 => ?_)
      refine xZ.adv (me := xm14) hP_14 1 (pc' := 84) (lv' := [(0, .ref v0), (1, .int (yw v1)), (2, .int (yw v2)), (3, .int (yw v3)), (4, .int (yw v4))]) (st' := [.ref v0]) rfl ?_
      refine xZ.k_gR (me := xm14) hP_14 rfl (fun x4 => ?_)
      refine xZ.adv (me := xm14) hP_14 2 (pc' := 91) (lv' := [(0, .ref v0), (1, .int (yw v1)), (2, .int (yw v2)), (3, .int (yw v3)), (4, .int (yw v4))]) (st' := [.int (yw v4), .int (yw v4), .ref x4]) rfl ?_
      refine xZ.jf_ne (me := xm14) hP_14 rfl (fun h2 => ?_) (fun h2 => ?_)
      · skip
        refine xZ.adv (me := xm14) hP_14 2 (pc' := 112) (lv' := [(0, .ref v0), (1, .int (yw v1)), (2, .int (yw v2)), (3, .int (yw v3)), (4, .int (yw v4))]) (st' := [.int (5 : Int32), .int (yw v4), .ref x4]) rfl ?_
        refine xZ.eqs (lv2 := [(0, .ref v0), (1, .int (yw v1)), (2, .int (yw v2)), (3, .int (yw v3)), (4, .int (yw v4))]) (st2 := [.int (yw 5), .int (yw v4), .ref x4]) rfl (by simp only [yl_lit, yL_lit, yw_add, yw_sub, yw_mul, yw_neg, yl_add, yl_sub, yl_mul, cj_and, cj_or, cj_xor, cj_shl, cj_shr, cj_ushr, cj_div, cj_i2c, cj_i2b, cj_dc, ck_and, ck_or, ck_xor, ck_shl, ck_shr, ck_ushr, ck_i2l, ck_l2i, ck_cmp]) ?_
        exact (k_f_LDays_ctor_112 O f d (f_LDays_ctor_51 O f n) ih v0 v1 v2 v3 v4 x4 v4 5 M3)
      · skip
        refine xZ.adv (me := xm14) hP_14 1 (pc' := 99) (lv' := [(0, .ref v0), (1, .int (yw v1)), (2, .int (yw v2)), (3, .int (yw v3)), (4, .int (yw v4))]) (st' := [.ref v0, .int (yw v4), .ref x4]) rfl ?_
        refine xZ.k_gR (me := xm14) hP_14 rfl (fun x5 => ?_)
        refine xZ.adv (me := xm14) hP_14 3 (pc' := 106) (lv' := [(0, .ref v0), (1, .int (yw v1)), (2, .int (yw v2)), (3, .int (yw v3)), (4, .int (yw v4))]) (st' := [.int ((yw v4) - (1 : Int32)), .ref x5, .int (yw v4), .ref x4]) rfl ?_
        refine xZ.eqs (lv2 := [(0, .ref v0), (1, .int (yw v1)), (2, .int (yw v2)), (3, .int (yw v3)), (4, .int (yw v4))]) (st2 := [.int (yw (v4 - 1)), .ref x5, .int (yw v4), .ref x4]) rfl (by simp only [yl_lit, yL_lit, yw_add, yw_sub, yw_mul, yw_neg, yl_add, yl_sub, yl_mul, cj_and, cj_or, cj_xor, cj_shl, cj_shr, cj_ushr, cj_div, cj_i2c, cj_i2b, cj_dc, ck_and, ck_or, ck_xor, ck_shl, ck_shr, ck_ushr, ck_i2l, ck_l2i, ck_cmp]) ?_
        refine xZ.k_aJ (me := xm14) hP_14 rfl (fun x6 => ?_)
        refine xZ.adv (me := xm14) hP_14 4 (pc' := 112) (lv' := [(0, .ref v0), (1, .int (yw v1)), (2, .int (yw v2)), (3, .int (yw v3)), (4, .int (yw v4))]) (st' := [.int (((yw x6) + (1 : Int32)) - ((yw x6) + (1 : Int32)) / (7 : Int32) * (7 : Int32)), .int (yw v4), .ref x4]) rfl ?_
        refine xZ.eqs (lv2 := [(0, .ref v0), (1, .int (yw v1)), (2, .int (yw v2)), (3, .int (yw v3)), (4, .int (yw v4))]) (st2 := [.int (yw ((x6 + 1) - (jdiv (x6 + 1) 7) * 7)), .int (yw v4), .ref x4]) rfl (by simp only [yl_lit, yL_lit, yw_add, yw_sub, yw_mul, yw_neg, yl_add, yl_sub, yl_mul, cj_and, cj_or, cj_xor, cj_shl, cj_shr, cj_ushr, cj_div, cj_i2c, cj_i2b, cj_dc, ck_and, ck_or, ck_xor, ck_shl, ck_shr, ck_ushr, ck_i2l, ck_l2i, ck_cmp]) ?_
        exact (k_f_LDays_ctor_112 O f d (f_LDays_ctor_51 O f n) ih v0 v1 v2 v3 v4 x4 v4 ((x6 + 1) - (jdiv (x6 + 1) 7) * 7) M3)
def f_LDays_ctor (O : Nat → Option va_E) (f : Nat) (v0 : Nat) (M : xM) : Option (Unit × xM) :=
  xcl (nAJ M 0 6000) fun x1 M1 =>
  (pR M1 v0 14 0 (some x1)).bind fun M2 =>
  xcl (nAJ M2 0 6000) fun x2 M3 =>
  (pR M3 v0 14 1 (some x2)).bind fun M4 =>
  xcl (nAJ M4 0 6000) fun x3 M5 =>
  (pR M5 v0 14 2 (some x3)).bind fun M6 =>
  xcl (nAJ M6 0 6000) fun x4 M7 =>
  (pR M7 v0 14 3 (some x4)).bind fun M8 =>
  f_LDays_ctor_51 O f f v0 2000 1 1 0 M8
set_option maxRecDepth 20000 in
theorem k_f_LDays_ctor (O : Nat → Option va_E) (f d : Nat) (v0 : Nat) (M : xM) : xZ oU O (d + 1) 14 0 [(0, .ref v0)] [] M (f_LDays_ctor O f v0 M) := by
  unfold f_LDays_ctor
  refine xZ.adv (me := xm14) hP_14 1 (pc' := 1) (lv' := [(0, .ref v0)]) (st' := [.ref v0]) rfl ?_
  refine xZ.obj (me := xm14) hP_14 rfl (Nat.le_of_ble_eq_true rfl) ?_
  refine xZ.adv (me := xm14) hP_14 2 (pc' := 8) (lv' := [(0, .ref v0)]) (st' := [.int (6000 : Int32), .ref v0]) rfl ?_
  refine xZ.eqs (lv2 := [(0, .ref v0)]) (st2 := [.int (yw 6000), .ref v0]) rfl (by simp only [yl_lit, yL_lit, yw_add, yw_sub, yw_mul, yw_neg, yl_add, yl_sub, yl_mul, cj_and, cj_or, cj_xor, cj_shl, cj_shr, cj_ushr, cj_div, cj_i2c, cj_i2b, cj_dc, ck_and, ck_or, ck_xor, ck_shl, ck_shr, ck_ushr, ck_i2l, ck_l2i, ck_cmp]) ?_
  refine xZ.k_nAJ (me := xm14) hP_14 rfl rfl (by decide) (fun x1 M1 => ?_)
  refine xZ.k_pR (x := (some x1)) (me := xm14) hP_14 rfl (fun M2 => ?_)
  refine xZ.adv (me := xm14) hP_14 2 (pc' := 17) (lv' := [(0, .ref v0)]) (st' := [.int (6000 : Int32), .ref v0]) rfl ?_
  refine xZ.eqs (lv2 := [(0, .ref v0)]) (st2 := [.int (yw 6000), .ref v0]) rfl (by simp only [yl_lit, yL_lit, yw_add, yw_sub, yw_mul, yw_neg, yl_add, yl_sub, yl_mul, cj_and, cj_or, cj_xor, cj_shl, cj_shr, cj_ushr, cj_div, cj_i2c, cj_i2b, cj_dc, ck_and, ck_or, ck_xor, ck_shl, ck_shr, ck_ushr, ck_i2l, ck_l2i, ck_cmp]) ?_
  refine xZ.k_nAJ (me := xm14) hP_14 rfl rfl (by decide) (fun x2 M3 => ?_)
  refine xZ.k_pR (x := (some x2)) (me := xm14) hP_14 rfl (fun M4 => ?_)
  refine xZ.adv (me := xm14) hP_14 2 (pc' := 26) (lv' := [(0, .ref v0)]) (st' := [.int (6000 : Int32), .ref v0]) rfl ?_
  refine xZ.eqs (lv2 := [(0, .ref v0)]) (st2 := [.int (yw 6000), .ref v0]) rfl (by simp only [yl_lit, yL_lit, yw_add, yw_sub, yw_mul, yw_neg, yl_add, yl_sub, yl_mul, cj_and, cj_or, cj_xor, cj_shl, cj_shr, cj_ushr, cj_div, cj_i2c, cj_i2b, cj_dc, ck_and, ck_or, ck_xor, ck_shl, ck_shr, ck_ushr, ck_i2l, ck_l2i, ck_cmp]) ?_
  refine xZ.k_nAJ (me := xm14) hP_14 rfl rfl (by decide) (fun x3 M5 => ?_)
  refine xZ.k_pR (x := (some x3)) (me := xm14) hP_14 rfl (fun M6 => ?_)
  refine xZ.adv (me := xm14) hP_14 2 (pc' := 35) (lv' := [(0, .ref v0)]) (st' := [.int (6000 : Int32), .ref v0]) rfl ?_
  refine xZ.eqs (lv2 := [(0, .ref v0)]) (st2 := [.int (yw 6000), .ref v0]) rfl (by simp only [yl_lit, yL_lit, yw_add, yw_sub, yw_mul, yw_neg, yl_add, yl_sub, yl_mul, cj_and, cj_or, cj_xor, cj_shl, cj_shr, cj_ushr, cj_div, cj_i2c, cj_i2b, cj_dc, ck_and, ck_or, ck_xor, ck_shl, ck_shr, ck_ushr, ck_i2l, ck_l2i, ck_cmp]) ?_
  refine xZ.k_nAJ (me := xm14) hP_14 rfl rfl (by decide) (fun x4 M7 => ?_)
  refine xZ.k_pR (x := (some x4)) (me := xm14) hP_14 rfl (fun M8 => ?_)
  refine xZ.adv (me := xm14) hP_14 8 (pc' := 51) (lv' := [(4, .int (0 : Int32)), (3, .int (1 : Int32)), (2, .int (1 : Int32)), (1, .int (2000 : Int32)), (0, .ref v0)]) (st' := []) rfl ?_
  refine xZ.eqs (lv2 := [(4, .int (yw 0)), (3, .int (yw 1)), (2, .int (yw 1)), (1, .int (yw 2000)), (0, .ref v0)]) (st2 := []) (by simp only [yl_lit, yL_lit, yw_add, yw_sub, yw_mul, yw_neg, yl_add, yl_sub, yl_mul, cj_and, cj_or, cj_xor, cj_shl, cj_shr, cj_ushr, cj_div, cj_i2c, cj_i2b, cj_dc, ck_and, ck_or, ck_xor, ck_shl, ck_shr, ck_ushr, ck_i2l, ck_l2i, ck_cmp]) rfl ?_
  exact xZ.sub (xsc (.tail _ (.tail _ (.tail _ (.tail _ (.head _))))) (xsc (.tail _ (.tail _ (.tail _ (.head _)))) (xsc (.tail _ (.tail _ (.head _))) (xsc (.tail _ (.head _)) (xsc (.head _) xsn))))) (show ([4, 3, 2, 1, 0] : List Nat).Nodup from by decide) (k_f_LDays_ctor_51 O f d f v0 2000 1 1 0 M8)
def f_LRule_ctor (O : Nat → Option va_E) (f : Nat) (v0 : Nat) (M : xM) : Option (Unit × xM) :=
  some ((), M)
set_option maxRecDepth 20000 in
theorem k_f_LRule_ctor (O : Nat → Option va_E) (f d : Nat) (v0 : Nat) (M : xM) : xZ oU O (d + 0) 16 0 [(0, .ref v0)] [] M (f_LRule_ctor O f v0 M) := by
  unfold f_LRule_ctor
  refine xZ.adv (me := xm16) hP_16 1 (pc' := 1) (lv' := [(0, .ref v0)]) (st' := [.ref v0]) rfl ?_
  refine xZ.obj (me := xm16) hP_16 rfl (Nat.le_of_ble_eq_true rfl) ?_
  exact xZ.retu (me := xm16) hP_16 rfl rfl
def f_LDraw_is (O : Nat → Option va_E) (f : Nat) (v0 : Nat) (v1 : Int) (M : xM) : Option (Int × xM) :=
  (isO O M v0 15).bind fun _ =>
  xcl (f_LDraw_n O f v0 v1 M) fun x1 M1 =>
  if yw x1 = yw 0 then (
    some (1, M1)
  ) else
  some (0, M1)
set_option maxRecDepth 20000 in
theorem k_f_LDraw_is (O : Nat → Option va_E) (f d : Nat) (v0 : Nat) (v1 : Int) (M : xM) : xZ oJ O (d + 1) 18 0 [(0, .ref v0), (1, .int (yw v1))] [] M (f_LDraw_is O f v0 v1 M) := by
  unfold f_LDraw_is
  refine xZ.adv (me := xm18) hP_18 2 (pc' := 2) (lv' := [(0, .ref v0), (1, .int (yw v1))]) (st' := [.int (yw v1), .ref v0]) rfl ?_
  refine xZ.callv (κ := oJ) (av := [.int (yw v1)]) (rest := []) (st' := fun x1 => [.int (yw x1)]) (k0 := v0) (me := xm18) hP_18 rfl (Or.inl rfl) ⟨rfl, by decide⟩ rfl rfl (Nat.le_of_ble_eq_true rfl) (by decide) hP_12 (Nat.le_of_ble_eq_true rfl) (fun _ => rfl) (k_f_LDraw_n O f (d + 0) v0 v1 M) (fun x1 M1 => ?_)
  refine xZ.jf_ne (me := xm18) hP_18 rfl (fun h1 => ?_) (fun h1 => ?_)
  · skip
    refine xZ.adv (me := xm18) hP_18 2 (pc' := 13) (lv' := [(0, .ref v0), (1, .int (yw v1))]) (st' := [.int (1 : Int32)]) rfl ?_
    refine xZ.eqs (lv2 := [(0, .ref v0), (1, .int (yw v1))]) (st2 := [.int (yw 1)]) rfl (by simp only [yl_lit, yL_lit, yw_add, yw_sub, yw_mul, yw_neg, yl_add, yl_sub, yl_mul, cj_and, cj_or, cj_xor, cj_shl, cj_shr, cj_ushr, cj_div, cj_i2c, cj_i2b, cj_dc, ck_and, ck_or, ck_xor, ck_shl, ck_shr, ck_ushr, ck_i2l, ck_l2i, ck_cmp]) ?_
    exact xZ.jrete (me := xm18) hP_18 rfl rfl rfl
  · skip
    refine xZ.adv (me := xm18) hP_18 1 (pc' := 13) (lv' := [(0, .ref v0), (1, .int (yw v1))]) (st' := [.int (0 : Int32)]) rfl ?_
    refine xZ.eqs (lv2 := [(0, .ref v0), (1, .int (yw v1))]) (st2 := [.int (yw 0)]) rfl (by simp only [yl_lit, yL_lit, yw_add, yw_sub, yw_mul, yw_neg, yl_add, yl_sub, yl_mul, cj_and, cj_or, cj_xor, cj_shl, cj_shr, cj_ushr, cj_div, cj_i2c, cj_i2b, cj_dc, ck_and, ck_or, ck_xor, ck_shl, ck_shr, ck_ushr, ck_i2l, ck_l2i, ck_cmp]) ?_
    exact xZ.jrete (me := xm18) hP_18 rfl rfl rfl
def f_LRule_draw_213 (O : Nat → Option va_E) (f : Nat) (s0 : Nat) (s1 : Int) (M : xM) : Option (Unit × xM) :=
  (pJ M s0 16 6 s1).bind fun M1 =>
  some ((), M1)
set_option maxRecDepth 20000 in
theorem k_f_LRule_draw_213 (O : Nat → Option va_E) (f d : Nat) (s0 : Nat) (s1 : Int) (M : xM) : xZ oU O (d + 2) 17 213 [] [.int (yw s1), .ref s0] M (f_LRule_draw_213 O f s0 s1 M) := by
  unfold f_LRule_draw_213
  refine xZ.k_pJ (me := xm17) hP_17 rfl (fun M1 => ?_)
  exact xZ.retu (me := xm17) hP_17 rfl rfl
def f_LRule_draw_158 (O : Nat → Option va_E) (f : Nat) (v0 : Nat) (v1 : Nat) (s0 : Nat) (s1 : Int) (M : xM) : Option (Unit × xM) :=
  (pJ M s0 16 4 s1).bind fun M1 =>
  (isO O M1 v1 15).bind fun _ =>
  xcl (f_LDraw_n O f v1 3 M1) fun x1 M2 =>
  (pJ M2 v0 16 5 x1).bind fun M3 =>
  (gJ O M3 v0 16 5).bind fun x2 =>
  if yw x2 = yw 0 then (
    f_LRule_draw_213 O f v0 0 M3
  ) else
  (gJ O M3 v0 16 5).bind fun x3 =>
  if yw x3 = yw 1 then (
    (isO O M3 v1 15).bind fun _ =>
    xcl (f_LDraw_n O f v1 12 M3) fun x4 M4 =>
    f_LRule_draw_213 O f v0 (1 + x4) M4
  ) else
  (gJ O M3 v0 16 0).bind fun x5 =>
  (isO O M3 v1 15).bind fun _ =>
  xcl (f_LDraw_n O f v1 900 M3) fun x6 M5 =>
  f_LRule_draw_213 O f v0 (x5 + x6) M5
set_option maxRecDepth 20000 in
theorem k_f_LRule_draw_158 (O : Nat → Option va_E) (f d : Nat) (v0 : Nat) (v1 : Nat) (s0 : Nat) (s1 : Int) (M : xM) : xZ oU O (d + 2) 17 158 [(0, .ref v0), (1, .ref v1)] [.int (yw s1), .ref s0] M (f_LRule_draw_158 O f v0 v1 s0 s1 M) := by
  unfold f_LRule_draw_158
  refine xZ.k_pJ (me := xm17) hP_17 rfl (fun M1 => ?_)
  refine xZ.adv (me := xm17) hP_17 3 (pc' := 164) (lv' := [(0, .ref v0), (1, .ref v1)]) (st' := [.int (3 : Int32), .ref v1, .ref v0]) rfl ?_
  refine xZ.eqs (lv2 := [(0, .ref v0), (1, .ref v1)]) (st2 := [.int (yw 3), .ref v1, .ref v0]) rfl (by simp only [yl_lit, yL_lit, yw_add, yw_sub, yw_mul, yw_neg, yl_add, yl_sub, yl_mul, cj_and, cj_or, cj_xor, cj_shl, cj_shr, cj_ushr, cj_div, cj_i2c, cj_i2b, cj_dc, ck_and, ck_or, ck_xor, ck_shl, ck_shr, ck_ushr, ck_i2l, ck_l2i, ck_cmp]) ?_
  refine xZ.callv (κ := oJ) (av := [.int (yw 3)]) (rest := [.ref v0]) (st' := fun x1 => [.int (yw x1), .ref v0]) (k0 := v1) (me := xm17) hP_17 rfl (Or.inl rfl) ⟨rfl, by decide⟩ rfl rfl (Nat.le_of_ble_eq_true rfl) (by decide) hP_12 (Nat.le_of_ble_eq_true rfl) (fun _ => rfl) (k_f_LDraw_n O f (d + 1) v1 3 M1) (fun x1 M2 => ?_)
  refine xZ.k_pJ (me := xm17) hP_17 rfl (fun M3 => ?_)
  refine xZ.adv (me := xm17) hP_17 2 (pc' := 172) (lv' := [(0, .ref v0), (1, .ref v1)]) (st' := [.ref v0, .ref v0]) rfl ?_
  refine xZ.k_gJ (me := xm17) hP_17 rfl (fun x2 => ?_)
  refine xZ.jf_ne (me := xm17) hP_17 rfl (fun h1 => ?_) (fun h1 => ?_)
  · skip
    refine xZ.adv (me := xm17) hP_17 2 (pc' := 213) (lv' := [(0, .ref v0), (1, .ref v1)]) (st' := [.int (0 : Int32), .ref v0]) rfl ?_
    refine xZ.eqs (lv2 := [(0, .ref v0), (1, .ref v1)]) (st2 := [.int (yw 0), .ref v0]) rfl (by simp only [yl_lit, yL_lit, yw_add, yw_sub, yw_mul, yw_neg, yl_add, yl_sub, yl_mul, cj_and, cj_or, cj_xor, cj_shl, cj_shr, cj_ushr, cj_div, cj_i2c, cj_i2b, cj_dc, ck_and, ck_or, ck_xor, ck_shl, ck_shr, ck_ushr, ck_i2l, ck_l2i, ck_cmp]) ?_
    exact xZ.sub xsn (show ([0, 1] : List Nat).Nodup from by decide) (k_f_LRule_draw_213 O f d v0 0 M3)
  · skip
    refine xZ.adv (me := xm17) hP_17 1 (pc' := 183) (lv' := [(0, .ref v0), (1, .ref v1)]) (st' := [.ref v0, .ref v0]) rfl ?_
    refine xZ.k_gJ (me := xm17) hP_17 rfl (fun x3 => ?_)
    refine xZ.adv (me := xm17) hP_17 1 (pc' := 187) (lv' := [(0, .ref v0), (1, .ref v1)]) (st' := [.int (1 : Int32), .int (yw x3), .ref v0]) rfl ?_
    refine xZ.eqs (lv2 := [(0, .ref v0), (1, .ref v1)]) (st2 := [.int (yw 1), .int (yw x3), .ref v0]) rfl (by simp only [yl_lit, yL_lit, yw_add, yw_sub, yw_mul, yw_neg, yl_add, yl_sub, yl_mul, cj_and, cj_or, cj_xor, cj_shl, cj_shr, cj_ushr, cj_div, cj_i2c, cj_i2b, cj_dc, ck_and, ck_or, ck_xor, ck_shl, ck_shr, ck_ushr, ck_i2l, ck_l2i, ck_cmp]) ?_
    refine xZ.jc_ne (me := xm17) hP_17 rfl (fun h2 => ?_) (fun h2 => ?_)
    · skip
      refine xZ.adv (me := xm17) hP_17 3 (pc' := 194) (lv' := [(0, .ref v0), (1, .ref v1)]) (st' := [.int (12 : Int32), .ref v1, .int (1 : Int32), .ref v0]) rfl ?_
      refine xZ.eqs (lv2 := [(0, .ref v0), (1, .ref v1)]) (st2 := [.int (yw 12), .ref v1, .int (yw 1), .ref v0]) rfl (by simp only [yl_lit, yL_lit, yw_add, yw_sub, yw_mul, yw_neg, yl_add, yl_sub, yl_mul, cj_and, cj_or, cj_xor, cj_shl, cj_shr, cj_ushr, cj_div, cj_i2c, cj_i2b, cj_dc, ck_and, ck_or, ck_xor, ck_shl, ck_shr, ck_ushr, ck_i2l, ck_l2i, ck_cmp]) ?_
      refine xZ.callv (κ := oJ) (av := [.int (yw 12)]) (rest := [.int (yw 1), .ref v0]) (st' := fun x4 => [.int (yw x4), .int (yw 1), .ref v0]) (k0 := v1) (me := xm17) hP_17 rfl (Or.inl rfl) ⟨rfl, by decide⟩ rfl rfl (Nat.le_of_ble_eq_true rfl) (by decide) hP_12 (Nat.le_of_ble_eq_true rfl) (fun _ => rfl) (k_f_LDraw_n O f (d + 1) v1 12 M3) (fun x4 M4 => ?_)
      refine xZ.adv (me := xm17) hP_17 2 (pc' := 213) (lv' := [(0, .ref v0), (1, .ref v1)]) (st' := [.int ((yw 1) + (yw x4)), .ref v0]) rfl ?_
      refine xZ.eqs (lv2 := [(0, .ref v0), (1, .ref v1)]) (st2 := [.int (yw (1 + x4)), .ref v0]) rfl (by simp only [yl_lit, yL_lit, yw_add, yw_sub, yw_mul, yw_neg, yl_add, yl_sub, yl_mul, cj_and, cj_or, cj_xor, cj_shl, cj_shr, cj_ushr, cj_div, cj_i2c, cj_i2b, cj_dc, ck_and, ck_or, ck_xor, ck_shl, ck_shr, ck_ushr, ck_i2l, ck_l2i, ck_cmp]) ?_
      exact xZ.sub xsn (show ([0, 1] : List Nat).Nodup from by decide) (k_f_LRule_draw_213 O f d v0 (1 + x4) M4)
    · skip
      refine xZ.adv (me := xm17) hP_17 1 (pc' := 202) (lv' := [(0, .ref v0), (1, .ref v1)]) (st' := [.ref v0, .ref v0]) rfl ?_
      refine xZ.k_gJ (me := xm17) hP_17 rfl (fun x5 => ?_)
      refine xZ.adv (me := xm17) hP_17 2 (pc' := 209) (lv' := [(0, .ref v0), (1, .ref v1)]) (st' := [.int (900 : Int32), .ref v1, .int (yw x5), .ref v0]) rfl ?_
      refine xZ.eqs (lv2 := [(0, .ref v0), (1, .ref v1)]) (st2 := [.int (yw 900), .ref v1, .int (yw x5), .ref v0]) rfl (by simp only [yl_lit, yL_lit, yw_add, yw_sub, yw_mul, yw_neg, yl_add, yl_sub, yl_mul, cj_and, cj_or, cj_xor, cj_shl, cj_shr, cj_ushr, cj_div, cj_i2c, cj_i2b, cj_dc, ck_and, ck_or, ck_xor, ck_shl, ck_shr, ck_ushr, ck_i2l, ck_l2i, ck_cmp]) ?_
      refine xZ.callv (κ := oJ) (av := [.int (yw 900)]) (rest := [.int (yw x5), .ref v0]) (st' := fun x6 => [.int (yw x6), .int (yw x5), .ref v0]) (k0 := v1) (me := xm17) hP_17 rfl (Or.inl rfl) ⟨rfl, by decide⟩ rfl rfl (Nat.le_of_ble_eq_true rfl) (by decide) hP_12 (Nat.le_of_ble_eq_true rfl) (fun _ => rfl) (k_f_LDraw_n O f (d + 1) v1 900 M3) (fun x6 M5 => ?_)
      refine xZ.adv (me := xm17) hP_17 1 (pc' := 213) (lv' := [(0, .ref v0), (1, .ref v1)]) (st' := [.int ((yw x5) + (yw x6)), .ref v0]) rfl ?_
      refine xZ.eqs (lv2 := [(0, .ref v0), (1, .ref v1)]) (st2 := [.int (yw (x5 + x6)), .ref v0]) rfl (by simp only [yl_lit, yL_lit, yw_add, yw_sub, yw_mul, yw_neg, yl_add, yl_sub, yl_mul, cj_and, cj_or, cj_xor, cj_shl, cj_shr, cj_ushr, cj_div, cj_i2c, cj_i2b, cj_dc, ck_and, ck_or, ck_xor, ck_shl, ck_shr, ck_ushr, ck_i2l, ck_l2i, ck_cmp]) ?_
      exact xZ.sub xsn (show ([0, 1] : List Nat).Nodup from by decide) (k_f_LRule_draw_213 O f d v0 (x5 + x6) M5)
def f_LRule_draw_79 (O : Nat → Option va_E) (f : Nat) (v0 : Nat) (v1 : Nat) (s0 : Nat) (s1 : Int) (M : xM) : Option (Unit × xM) :=
  (pJ M s0 16 3 s1).bind fun M1 =>
  (gJ O M1 v0 16 1).bind fun x1 =>
  if yw x1 = yw 3 then (
    (isO O M1 v1 15).bind fun _ =>
    xcl (f_LDraw_is O f v1 3 M1) fun x2 M2 =>
    if yw x2 = yw 0 then (
      (isO O M2 v1 15).bind fun _ =>
      xcl (f_LDraw_n O f v1 31 M2) fun x3 M3 =>
      f_LRule_draw_158 O f v0 v1 v0 (1 + x3) M3
    ) else
    (isO O M2 v1 15).bind fun _ =>
    xcl (f_LDraw_n O f v1 31 M2) fun x4 M4 =>
    f_LRule_draw_158 O f v0 v1 v0 ((-1) - x4) M4
  ) else
  (gJ O M1 v0 16 1).bind fun x5 =>
  if yw x5 = yw 4 then (
    (isO O M1 v1 15).bind fun _ =>
    xcl (f_LDraw_is O f v1 3 M1) fun x6 M5 =>
    if yw x6 = yw 0 then (
      (isO O M5 v1 15).bind fun _ =>
      xcl (f_LDraw_n O f v1 5 M5) fun x7 M6 =>
      f_LRule_draw_158 O f v0 v1 v0 (1 + x7) M6
    ) else
    (isO O M5 v1 15).bind fun _ =>
    xcl (f_LDraw_n O f v1 5 M5) fun x8 M7 =>
    f_LRule_draw_158 O f v0 v1 v0 ((-1) - x8) M7
  ) else
  f_LRule_draw_158 O f v0 v1 v0 0 M1
set_option maxRecDepth 20000 in
theorem k_f_LRule_draw_79 (O : Nat → Option va_E) (f d : Nat) (v0 : Nat) (v1 : Nat) (s0 : Nat) (s1 : Int) (M : xM) : xZ oU O (d + 2) 17 79 [(0, .ref v0), (1, .ref v1)] [.int (yw s1), .ref s0] M (f_LRule_draw_79 O f v0 v1 s0 s1 M) := by
  unfold f_LRule_draw_79
  refine xZ.k_pJ (me := xm17) hP_17 rfl (fun M1 => ?_)
  refine xZ.adv (me := xm17) hP_17 2 (pc' := 84) (lv' := [(0, .ref v0), (1, .ref v1)]) (st' := [.ref v0, .ref v0]) rfl ?_
  refine xZ.k_gJ (me := xm17) hP_17 rfl (fun x1 => ?_)
  refine xZ.adv (me := xm17) hP_17 1 (pc' := 88) (lv' := [(0, .ref v0), (1, .ref v1)]) (st' := [.int (3 : Int32), .int (yw x1), .ref v0]) rfl ?_
  refine xZ.eqs (lv2 := [(0, .ref v0), (1, .ref v1)]) (st2 := [.int (yw 3), .int (yw x1), .ref v0]) rfl (by simp only [yl_lit, yL_lit, yw_add, yw_sub, yw_mul, yw_neg, yl_add, yl_sub, yl_mul, cj_and, cj_or, cj_xor, cj_shl, cj_shr, cj_ushr, cj_div, cj_i2c, cj_i2b, cj_dc, ck_and, ck_or, ck_xor, ck_shl, ck_shr, ck_ushr, ck_i2l, ck_l2i, ck_cmp]) ?_
  refine xZ.jc_ne (me := xm17) hP_17 rfl (fun h1 => ?_) (fun h1 => ?_)
  · skip
    refine xZ.adv (me := xm17) hP_17 2 (pc' := 93) (lv' := [(0, .ref v0), (1, .ref v1)]) (st' := [.int (3 : Int32), .ref v1, .ref v0]) rfl ?_
    refine xZ.eqs (lv2 := [(0, .ref v0), (1, .ref v1)]) (st2 := [.int (yw 3), .ref v1, .ref v0]) rfl (by simp only [yl_lit, yL_lit, yw_add, yw_sub, yw_mul, yw_neg, yl_add, yl_sub, yl_mul, cj_and, cj_or, cj_xor, cj_shl, cj_shr, cj_ushr, cj_div, cj_i2c, cj_i2b, cj_dc, ck_and, ck_or, ck_xor, ck_shl, ck_shr, ck_ushr, ck_i2l, ck_l2i, ck_cmp]) ?_
    refine xZ.callv (κ := oJ) (av := [.int (yw 3)]) (rest := [.ref v0]) (st' := fun x2 => [.int (yw x2), .ref v0]) (k0 := v1) (me := xm17) hP_17 rfl (Or.inl rfl) ⟨rfl, by decide⟩ rfl rfl (Nat.le_of_ble_eq_true rfl) (by decide) hP_18 (Nat.le_of_ble_eq_true rfl) (fun _ => rfl) (k_f_LDraw_is O f (d + 0) v1 3 M1) (fun x2 M2 => ?_)
    refine xZ.jf_eq (me := xm17) hP_17 rfl (fun h2 => ?_) (fun h2 => ?_)
    · skip
      refine xZ.adv (me := xm17) hP_17 3 (pc' := 114) (lv' := [(0, .ref v0), (1, .ref v1)]) (st' := [.int (31 : Int32), .ref v1, .int (1 : Int32), .ref v0]) rfl ?_
      refine xZ.eqs (lv2 := [(0, .ref v0), (1, .ref v1)]) (st2 := [.int (yw 31), .ref v1, .int (yw 1), .ref v0]) rfl (by simp only [yl_lit, yL_lit, yw_add, yw_sub, yw_mul, yw_neg, yl_add, yl_sub, yl_mul, cj_and, cj_or, cj_xor, cj_shl, cj_shr, cj_ushr, cj_div, cj_i2c, cj_i2b, cj_dc, ck_and, ck_or, ck_xor, ck_shl, ck_shr, ck_ushr, ck_i2l, ck_l2i, ck_cmp]) ?_
      refine xZ.callv (κ := oJ) (av := [.int (yw 31)]) (rest := [.int (yw 1), .ref v0]) (st' := fun x3 => [.int (yw x3), .int (yw 1), .ref v0]) (k0 := v1) (me := xm17) hP_17 rfl (Or.inl rfl) ⟨rfl, by decide⟩ rfl rfl (Nat.le_of_ble_eq_true rfl) (by decide) hP_12 (Nat.le_of_ble_eq_true rfl) (fun _ => rfl) (k_f_LDraw_n O f (d + 1) v1 31 M2) (fun x3 M3 => ?_)
      refine xZ.adv (me := xm17) hP_17 2 (pc' := 158) (lv' := [(0, .ref v0), (1, .ref v1)]) (st' := [.int ((yw 1) + (yw x3)), .ref v0]) rfl ?_
      refine xZ.eqs (lv2 := [(0, .ref v0), (1, .ref v1)]) (st2 := [.int (yw (1 + x3)), .ref v0]) rfl (by simp only [yl_lit, yL_lit, yw_add, yw_sub, yw_mul, yw_neg, yl_add, yl_sub, yl_mul, cj_and, cj_or, cj_xor, cj_shl, cj_shr, cj_ushr, cj_div, cj_i2c, cj_i2b, cj_dc, ck_and, ck_or, ck_xor, ck_shl, ck_shr, ck_ushr, ck_i2l, ck_l2i, ck_cmp]) ?_
      exact (k_f_LRule_draw_158 O f d v0 v1 v0 (1 + x3) M3)
    · skip
      refine xZ.adv (me := xm17) hP_17 3 (pc' := 103) (lv' := [(0, .ref v0), (1, .ref v1)]) (st' := [.int (31 : Int32), .ref v1, .int (-1 : Int32), .ref v0]) rfl ?_
      refine xZ.eqs (lv2 := [(0, .ref v0), (1, .ref v1)]) (st2 := [.int (yw 31), .ref v1, .int (yw (-1)), .ref v0]) rfl (by simp only [yl_lit, yL_lit, yw_add, yw_sub, yw_mul, yw_neg, yl_add, yl_sub, yl_mul, cj_and, cj_or, cj_xor, cj_shl, cj_shr, cj_ushr, cj_div, cj_i2c, cj_i2b, cj_dc, ck_and, ck_or, ck_xor, ck_shl, ck_shr, ck_ushr, ck_i2l, ck_l2i, ck_cmp]) ?_
      refine xZ.callv (κ := oJ) (av := [.int (yw 31)]) (rest := [.int (yw (-1)), .ref v0]) (st' := fun x4 => [.int (yw x4), .int (yw (-1)), .ref v0]) (k0 := v1) (me := xm17) hP_17 rfl (Or.inl rfl) ⟨rfl, by decide⟩ rfl rfl (Nat.le_of_ble_eq_true rfl) (by decide) hP_12 (Nat.le_of_ble_eq_true rfl) (fun _ => rfl) (k_f_LDraw_n O f (d + 1) v1 31 M2) (fun x4 M4 => ?_)
      refine xZ.adv (me := xm17) hP_17 2 (pc' := 158) (lv' := [(0, .ref v0), (1, .ref v1)]) (st' := [.int ((yw (-1)) - (yw x4)), .ref v0]) rfl ?_
      refine xZ.eqs (lv2 := [(0, .ref v0), (1, .ref v1)]) (st2 := [.int (yw ((-1) - x4)), .ref v0]) rfl (by simp only [yl_lit, yL_lit, yw_add, yw_sub, yw_mul, yw_neg, yl_add, yl_sub, yl_mul, cj_and, cj_or, cj_xor, cj_shl, cj_shr, cj_ushr, cj_div, cj_i2c, cj_i2b, cj_dc, ck_and, ck_or, ck_xor, ck_shl, ck_shr, ck_ushr, ck_i2l, ck_l2i, ck_cmp]) ?_
      exact (k_f_LRule_draw_158 O f d v0 v1 v0 ((-1) - x4) M4)
  · skip
    refine xZ.adv (me := xm17) hP_17 1 (pc' := 122) (lv' := [(0, .ref v0), (1, .ref v1)]) (st' := [.ref v0, .ref v0]) rfl ?_
    refine xZ.k_gJ (me := xm17) hP_17 rfl (fun x5 => ?_)
    refine xZ.adv (me := xm17) hP_17 1 (pc' := 126) (lv' := [(0, .ref v0), (1, .ref v1)]) (st' := [.int (4 : Int32), .int (yw x5), .ref v0]) rfl ?_
    refine xZ.eqs (lv2 := [(0, .ref v0), (1, .ref v1)]) (st2 := [.int (yw 4), .int (yw x5), .ref v0]) rfl (by simp only [yl_lit, yL_lit, yw_add, yw_sub, yw_mul, yw_neg, yl_add, yl_sub, yl_mul, cj_and, cj_or, cj_xor, cj_shl, cj_shr, cj_ushr, cj_div, cj_i2c, cj_i2b, cj_dc, ck_and, ck_or, ck_xor, ck_shl, ck_shr, ck_ushr, ck_i2l, ck_l2i, ck_cmp]) ?_
    refine xZ.jc_ne (me := xm17) hP_17 rfl (fun h3 => ?_) (fun h3 => ?_)
    · skip
      refine xZ.adv (me := xm17) hP_17 2 (pc' := 131) (lv' := [(0, .ref v0), (1, .ref v1)]) (st' := [.int (3 : Int32), .ref v1, .ref v0]) rfl ?_
      refine xZ.eqs (lv2 := [(0, .ref v0), (1, .ref v1)]) (st2 := [.int (yw 3), .ref v1, .ref v0]) rfl (by simp only [yl_lit, yL_lit, yw_add, yw_sub, yw_mul, yw_neg, yl_add, yl_sub, yl_mul, cj_and, cj_or, cj_xor, cj_shl, cj_shr, cj_ushr, cj_div, cj_i2c, cj_i2b, cj_dc, ck_and, ck_or, ck_xor, ck_shl, ck_shr, ck_ushr, ck_i2l, ck_l2i, ck_cmp]) ?_
      refine xZ.callv (κ := oJ) (av := [.int (yw 3)]) (rest := [.ref v0]) (st' := fun x6 => [.int (yw x6), .ref v0]) (k0 := v1) (me := xm17) hP_17 rfl (Or.inl rfl) ⟨rfl, by decide⟩ rfl rfl (Nat.le_of_ble_eq_true rfl) (by decide) hP_18 (Nat.le_of_ble_eq_true rfl) (fun _ => rfl) (k_f_LDraw_is O f (d + 0) v1 3 M1) (fun x6 M5 => ?_)
      refine xZ.jf_eq (me := xm17) hP_17 rfl (fun h4 => ?_) (fun h4 => ?_)
      · skip
        refine xZ.adv (me := xm17) hP_17 3 (pc' := 150) (lv' := [(0, .ref v0), (1, .ref v1)]) (st' := [.int (5 : Int32), .ref v1, .int (1 : Int32), .ref v0]) rfl ?_
        refine xZ.eqs (lv2 := [(0, .ref v0), (1, .ref v1)]) (st2 := [.int (yw 5), .ref v1, .int (yw 1), .ref v0]) rfl (by simp only [yl_lit, yL_lit, yw_add, yw_sub, yw_mul, yw_neg, yl_add, yl_sub, yl_mul, cj_and, cj_or, cj_xor, cj_shl, cj_shr, cj_ushr, cj_div, cj_i2c, cj_i2b, cj_dc, ck_and, ck_or, ck_xor, ck_shl, ck_shr, ck_ushr, ck_i2l, ck_l2i, ck_cmp]) ?_
        refine xZ.callv (κ := oJ) (av := [.int (yw 5)]) (rest := [.int (yw 1), .ref v0]) (st' := fun x7 => [.int (yw x7), .int (yw 1), .ref v0]) (k0 := v1) (me := xm17) hP_17 rfl (Or.inl rfl) ⟨rfl, by decide⟩ rfl rfl (Nat.le_of_ble_eq_true rfl) (by decide) hP_12 (Nat.le_of_ble_eq_true rfl) (fun _ => rfl) (k_f_LDraw_n O f (d + 1) v1 5 M5) (fun x7 M6 => ?_)
        refine xZ.adv (me := xm17) hP_17 2 (pc' := 158) (lv' := [(0, .ref v0), (1, .ref v1)]) (st' := [.int ((yw 1) + (yw x7)), .ref v0]) rfl ?_
        refine xZ.eqs (lv2 := [(0, .ref v0), (1, .ref v1)]) (st2 := [.int (yw (1 + x7)), .ref v0]) rfl (by simp only [yl_lit, yL_lit, yw_add, yw_sub, yw_mul, yw_neg, yl_add, yl_sub, yl_mul, cj_and, cj_or, cj_xor, cj_shl, cj_shr, cj_ushr, cj_div, cj_i2c, cj_i2b, cj_dc, ck_and, ck_or, ck_xor, ck_shl, ck_shr, ck_ushr, ck_i2l, ck_l2i, ck_cmp]) ?_
        exact (k_f_LRule_draw_158 O f d v0 v1 v0 (1 + x7) M6)
      · skip
        refine xZ.adv (me := xm17) hP_17 3 (pc' := 140) (lv' := [(0, .ref v0), (1, .ref v1)]) (st' := [.int (5 : Int32), .ref v1, .int (-1 : Int32), .ref v0]) rfl ?_
        refine xZ.eqs (lv2 := [(0, .ref v0), (1, .ref v1)]) (st2 := [.int (yw 5), .ref v1, .int (yw (-1)), .ref v0]) rfl (by simp only [yl_lit, yL_lit, yw_add, yw_sub, yw_mul, yw_neg, yl_add, yl_sub, yl_mul, cj_and, cj_or, cj_xor, cj_shl, cj_shr, cj_ushr, cj_div, cj_i2c, cj_i2b, cj_dc, ck_and, ck_or, ck_xor, ck_shl, ck_shr, ck_ushr, ck_i2l, ck_l2i, ck_cmp]) ?_
        refine xZ.callv (κ := oJ) (av := [.int (yw 5)]) (rest := [.int (yw (-1)), .ref v0]) (st' := fun x8 => [.int (yw x8), .int (yw (-1)), .ref v0]) (k0 := v1) (me := xm17) hP_17 rfl (Or.inl rfl) ⟨rfl, by decide⟩ rfl rfl (Nat.le_of_ble_eq_true rfl) (by decide) hP_12 (Nat.le_of_ble_eq_true rfl) (fun _ => rfl) (k_f_LDraw_n O f (d + 1) v1 5 M5) (fun x8 M7 => ?_)
        refine xZ.adv (me := xm17) hP_17 2 (pc' := 158) (lv' := [(0, .ref v0), (1, .ref v1)]) (st' := [.int ((yw (-1)) - (yw x8)), .ref v0]) rfl ?_
        refine xZ.eqs (lv2 := [(0, .ref v0), (1, .ref v1)]) (st2 := [.int (yw ((-1) - x8)), .ref v0]) rfl (by simp only [yl_lit, yL_lit, yw_add, yw_sub, yw_mul, yw_neg, yl_add, yl_sub, yl_mul, cj_and, cj_or, cj_xor, cj_shl, cj_shr, cj_ushr, cj_div, cj_i2c, cj_i2b, cj_dc, ck_and, ck_or, ck_xor, ck_shl, ck_shr, ck_ushr, ck_i2l, ck_l2i, ck_cmp]) ?_
        exact (k_f_LRule_draw_158 O f d v0 v1 v0 ((-1) - x8) M7)
    · skip
      refine xZ.adv (me := xm17) hP_17 1 (pc' := 158) (lv' := [(0, .ref v0), (1, .ref v1)]) (st' := [.int (0 : Int32), .ref v0]) rfl ?_
      refine xZ.eqs (lv2 := [(0, .ref v0), (1, .ref v1)]) (st2 := [.int (yw 0), .ref v0]) rfl (by simp only [yl_lit, yL_lit, yw_add, yw_sub, yw_mul, yw_neg, yl_add, yl_sub, yl_mul, cj_and, cj_or, cj_xor, cj_shl, cj_shr, cj_ushr, cj_div, cj_i2c, cj_i2b, cj_dc, ck_and, ck_or, ck_xor, ck_shl, ck_shr, ck_ushr, ck_i2l, ck_l2i, ck_cmp]) ?_
      exact (k_f_LRule_draw_158 O f d v0 v1 v0 0 M1)
def f_LRule_draw_67 (O : Nat → Option va_E) (f : Nat) (v0 : Nat) (v1 : Nat) (s0 : Nat) (M : xM) : Option (Unit × xM) :=
  (isO O M v1 15).bind fun _ =>
  xcl (f_LDraw_n O f v1 127 M) fun x1 M1 =>
  f_LRule_draw_79 O f v0 v1 s0 (1 + x1) M1
set_option maxRecDepth 20000 in
theorem k_f_LRule_draw_67 (O : Nat → Option va_E) (f d : Nat) (v0 : Nat) (v1 : Nat) (s0 : Nat) (M : xM) : xZ oU O (d + 2) 17 67 [(0, .ref v0), (1, .ref v1)] [.ref s0] M (f_LRule_draw_67 O f v0 v1 s0 M) := by
  unfold f_LRule_draw_67
  refine xZ.adv (me := xm17) hP_17 3 (pc' := 71) (lv' := [(0, .ref v0), (1, .ref v1)]) (st' := [.int (127 : Int32), .ref v1, .int (1 : Int32), .ref s0]) rfl ?_
  refine xZ.eqs (lv2 := [(0, .ref v0), (1, .ref v1)]) (st2 := [.int (yw 127), .ref v1, .int (yw 1), .ref s0]) rfl (by simp only [yl_lit, yL_lit, yw_add, yw_sub, yw_mul, yw_neg, yl_add, yl_sub, yl_mul, cj_and, cj_or, cj_xor, cj_shl, cj_shr, cj_ushr, cj_div, cj_i2c, cj_i2b, cj_dc, ck_and, ck_or, ck_xor, ck_shl, ck_shr, ck_ushr, ck_i2l, ck_l2i, ck_cmp]) ?_
  refine xZ.callv (κ := oJ) (av := [.int (yw 127)]) (rest := [.int (yw 1), .ref s0]) (st' := fun x1 => [.int (yw x1), .int (yw 1), .ref s0]) (k0 := v1) (me := xm17) hP_17 rfl (Or.inl rfl) ⟨rfl, by decide⟩ rfl rfl (Nat.le_of_ble_eq_true rfl) (by decide) hP_12 (Nat.le_of_ble_eq_true rfl) (fun _ => rfl) (k_f_LDraw_n O f (d + 1) v1 127 M) (fun x1 M1 => ?_)
  refine xZ.adv (me := xm17) hP_17 2 (pc' := 79) (lv' := [(0, .ref v0), (1, .ref v1)]) (st' := [.int ((yw 1) + (yw x1)), .ref s0]) rfl ?_
  refine xZ.eqs (lv2 := [(0, .ref v0), (1, .ref v1)]) (st2 := [.int (yw (1 + x1)), .ref s0]) rfl (by simp only [yl_lit, yL_lit, yw_add, yw_sub, yw_mul, yw_neg, yl_add, yl_sub, yl_mul, cj_and, cj_or, cj_xor, cj_shl, cj_shr, cj_ushr, cj_div, cj_i2c, cj_i2b, cj_dc, ck_and, ck_or, ck_xor, ck_shl, ck_shr, ck_ushr, ck_i2l, ck_l2i, ck_cmp]) ?_
  exact (k_f_LRule_draw_79 O f d v0 v1 s0 (1 + x1) M1)
def f_LRule_draw_47 (O : Nat → Option va_E) (f : Nat) (v0 : Nat) (v1 : Nat) (s0 : Nat) (s1 : Int) (M : xM) : Option (Unit × xM) :=
  (pJ M s0 16 2 s1).bind fun M1 =>
  (gJ O M1 v0 16 1).bind fun x1 =>
  if yw x1 = yw 2 then (
    f_LRule_draw_67 O f v0 v1 v0 M1
  ) else
  (gJ O M1 v0 16 1).bind fun x2 =>
  if yw x2 = yw 4 then (
    f_LRule_draw_67 O f v0 v1 v0 M1
  ) else
  f_LRule_draw_79 O f v0 v1 v0 0 M1
set_option maxRecDepth 20000 in
theorem k_f_LRule_draw_47 (O : Nat → Option va_E) (f d : Nat) (v0 : Nat) (v1 : Nat) (s0 : Nat) (s1 : Int) (M : xM) : xZ oU O (d + 2) 17 47 [(0, .ref v0), (1, .ref v1)] [.int (yw s1), .ref s0] M (f_LRule_draw_47 O f v0 v1 s0 s1 M) := by
  unfold f_LRule_draw_47
  refine xZ.k_pJ (me := xm17) hP_17 rfl (fun M1 => ?_)
  refine xZ.adv (me := xm17) hP_17 2 (pc' := 52) (lv' := [(0, .ref v0), (1, .ref v1)]) (st' := [.ref v0, .ref v0]) rfl ?_
  refine xZ.k_gJ (me := xm17) hP_17 rfl (fun x1 => ?_)
  refine xZ.adv (me := xm17) hP_17 1 (pc' := 56) (lv' := [(0, .ref v0), (1, .ref v1)]) (st' := [.int (2 : Int32), .int (yw x1), .ref v0]) rfl ?_
  refine xZ.eqs (lv2 := [(0, .ref v0), (1, .ref v1)]) (st2 := [.int (yw 2), .int (yw x1), .ref v0]) rfl (by simp only [yl_lit, yL_lit, yw_add, yw_sub, yw_mul, yw_neg, yl_add, yl_sub, yl_mul, cj_and, cj_or, cj_xor, cj_shl, cj_shr, cj_ushr, cj_div, cj_i2c, cj_i2b, cj_dc, ck_and, ck_or, ck_xor, ck_shl, ck_shr, ck_ushr, ck_i2l, ck_l2i, ck_cmp]) ?_
  refine xZ.jc_eq (me := xm17) hP_17 rfl (fun h1 => ?_) (fun h1 => ?_)
  · skip
    exact (k_f_LRule_draw_67 O f d v0 v1 v0 M1)
  · skip
    refine xZ.adv (me := xm17) hP_17 1 (pc' := 60) (lv' := [(0, .ref v0), (1, .ref v1)]) (st' := [.ref v0, .ref v0]) rfl ?_
    refine xZ.k_gJ (me := xm17) hP_17 rfl (fun x2 => ?_)
    refine xZ.adv (me := xm17) hP_17 1 (pc' := 64) (lv' := [(0, .ref v0), (1, .ref v1)]) (st' := [.int (4 : Int32), .int (yw x2), .ref v0]) rfl ?_
    refine xZ.eqs (lv2 := [(0, .ref v0), (1, .ref v1)]) (st2 := [.int (yw 4), .int (yw x2), .ref v0]) rfl (by simp only [yl_lit, yL_lit, yw_add, yw_sub, yw_mul, yw_neg, yl_add, yl_sub, yl_mul, cj_and, cj_or, cj_xor, cj_shl, cj_shr, cj_ushr, cj_div, cj_i2c, cj_i2b, cj_dc, ck_and, ck_or, ck_xor, ck_shl, ck_shr, ck_ushr, ck_i2l, ck_l2i, ck_cmp]) ?_
    refine xZ.jc_ne (me := xm17) hP_17 rfl (fun h2 => ?_) (fun h2 => ?_)
    · skip
      exact (k_f_LRule_draw_67 O f d v0 v1 v0 M1)
    · skip
      refine xZ.adv (me := xm17) hP_17 1 (pc' := 79) (lv' := [(0, .ref v0), (1, .ref v1)]) (st' := [.int (0 : Int32), .ref v0]) rfl ?_
      refine xZ.eqs (lv2 := [(0, .ref v0), (1, .ref v1)]) (st2 := [.int (yw 0), .ref v0]) rfl (by simp only [yl_lit, yL_lit, yw_add, yw_sub, yw_mul, yw_neg, yl_add, yl_sub, yl_mul, cj_and, cj_or, cj_xor, cj_shl, cj_shr, cj_ushr, cj_div, cj_i2c, cj_i2b, cj_dc, ck_and, ck_or, ck_xor, ck_shl, ck_shr, ck_ushr, ck_i2l, ck_l2i, ck_cmp]) ?_
      exact (k_f_LRule_draw_79 O f d v0 v1 v0 0 M1)
def f_LRule_draw_43 (O : Nat → Option va_E) (f : Nat) (v0 : Nat) (v1 : Nat) (s0 : Nat) (s1 : Int) (s2 : Nat) (s3 : Int) (M : xM) : Option (Unit × xM) :=
  (isO O M s2 15).bind fun _ =>
  xcl (f_LDraw_n O f s2 s3 M) fun x1 M1 =>
  f_LRule_draw_47 O f v0 v1 s0 (s1 + x1) M1
set_option maxRecDepth 20000 in
theorem k_f_LRule_draw_43 (O : Nat → Option va_E) (f d : Nat) (v0 : Nat) (v1 : Nat) (s0 : Nat) (s1 : Int) (s2 : Nat) (s3 : Int) (M : xM) : xZ oU O (d + 2) 17 43 [(0, .ref v0), (1, .ref v1)] [.int (yw s3), .ref s2, .int (yw s1), .ref s0] M (f_LRule_draw_43 O f v0 v1 s0 s1 s2 s3 M) := by
  unfold f_LRule_draw_43
  refine xZ.callv (κ := oJ) (av := [.int (yw s3)]) (rest := [.int (yw s1), .ref s0]) (st' := fun x1 => [.int (yw x1), .int (yw s1), .ref s0]) (k0 := s2) (me := xm17) hP_17 rfl (Or.inl rfl) ⟨rfl, by decide⟩ rfl rfl (Nat.le_of_ble_eq_true rfl) (by decide) hP_12 (Nat.le_of_ble_eq_true rfl) (fun _ => rfl) (k_f_LDraw_n O f (d + 1) s2 s3 M) (fun x1 M1 => ?_)
  refine xZ.adv (me := xm17) hP_17 1 (pc' := 47) (lv' := [(0, .ref v0), (1, .ref v1)]) (st' := [.int ((yw s1) + (yw x1)), .ref s0]) rfl ?_
  refine xZ.eqs (lv2 := [(0, .ref v0), (1, .ref v1)]) (st2 := [.int (yw (s1 + x1)), .ref s0]) rfl (by simp only [yl_lit, yL_lit, yw_add, yw_sub, yw_mul, yw_neg, yl_add, yl_sub, yl_mul, cj_and, cj_or, cj_xor, cj_shl, cj_shr, cj_ushr, cj_div, cj_i2c, cj_i2b, cj_dc, ck_and, ck_or, ck_xor, ck_shl, ck_shr, ck_ushr, ck_i2l, ck_l2i, ck_cmp]) ?_
  exact (k_f_LRule_draw_47 O f d v0 v1 s0 (s1 + x1) M1)
def f_LRule_draw (O : Nat → Option va_E) (f : Nat) (v0 : Nat) (v1 : Nat) (v2 : Int) (M : xM) : Option (Unit × xM) :=
  (pJ M v0 16 0 v2).bind fun M1 =>
  (isO O M1 v1 15).bind fun _ =>
  xcl (f_LDraw_n O f v1 6 M1) fun x1 M2 =>
  (pJ M2 v0 16 1 x1).bind fun M3 =>
  (gJ O M3 v0 16 1).bind fun x2 =>
  if yw x2 = yw 0 then (
    f_LRule_draw_47 O f v0 v1 v0 0 M3
  ) else
  (isO O M3 v1 15).bind fun _ =>
  xcl (f_LDraw_is O f v1 4 M3) fun x3 M4 =>
  if yw x3 = yw 0 then (
    f_LRule_draw_43 O f v0 v1 v0 1 v1 3 M4
  ) else
  f_LRule_draw_43 O f v0 v1 v0 1 v1 20 M4
set_option maxRecDepth 20000 in
theorem k_f_LRule_draw (O : Nat → Option va_E) (f d : Nat) (v0 : Nat) (v1 : Nat) (v2 : Int) (M : xM) : xZ oU O (d + 2) 17 0 [(0, .ref v0), (1, .ref v1), (2, .int (yw v2))] [] M (f_LRule_draw O f v0 v1 v2 M) := by
  unfold f_LRule_draw
  refine xZ.adv (me := xm17) hP_17 2 (pc' := 2) (lv' := [(0, .ref v0), (1, .ref v1), (2, .int (yw v2))]) (st' := [.int (yw v2), .ref v0]) rfl ?_
  refine xZ.k_pJ (me := xm17) hP_17 rfl (fun M1 => ?_)
  refine xZ.adv (me := xm17) hP_17 3 (pc' := 9) (lv' := [(0, .ref v0), (1, .ref v1), (2, .int (yw v2))]) (st' := [.int (6 : Int32), .ref v1, .ref v0]) rfl ?_
  refine xZ.eqs (lv2 := [(0, .ref v0), (1, .ref v1), (2, .int (yw v2))]) (st2 := [.int (yw 6), .ref v1, .ref v0]) rfl (by simp only [yl_lit, yL_lit, yw_add, yw_sub, yw_mul, yw_neg, yl_add, yl_sub, yl_mul, cj_and, cj_or, cj_xor, cj_shl, cj_shr, cj_ushr, cj_div, cj_i2c, cj_i2b, cj_dc, ck_and, ck_or, ck_xor, ck_shl, ck_shr, ck_ushr, ck_i2l, ck_l2i, ck_cmp]) ?_
  refine xZ.callv (κ := oJ) (av := [.int (yw 6)]) (rest := [.ref v0]) (st' := fun x1 => [.int (yw x1), .ref v0]) (k0 := v1) (me := xm17) hP_17 rfl (Or.inl rfl) ⟨rfl, by decide⟩ rfl rfl (Nat.le_of_ble_eq_true rfl) (by decide) hP_12 (Nat.le_of_ble_eq_true rfl) (fun _ => rfl) (k_f_LDraw_n O f (d + 1) v1 6 M1) (fun x1 M2 => ?_)
  refine xZ.k_pJ (me := xm17) hP_17 rfl (fun M3 => ?_)
  refine xZ.adv (me := xm17) hP_17 2 (pc' := 17) (lv' := [(0, .ref v0), (1, .ref v1), (2, .int (yw v2))]) (st' := [.ref v0, .ref v0]) rfl ?_
  refine xZ.k_gJ (me := xm17) hP_17 rfl (fun x2 => ?_)
  refine xZ.jf_ne (me := xm17) hP_17 rfl (fun h1 => ?_) (fun h1 => ?_)
  · skip
    refine xZ.adv (me := xm17) hP_17 2 (pc' := 47) (lv' := [(0, .ref v0), (1, .ref v1), (2, .int (yw v2))]) (st' := [.int (0 : Int32), .ref v0]) rfl ?_
    refine xZ.eqs (lv2 := [(0, .ref v0), (1, .ref v1), (2, .int (yw v2))]) (st2 := [.int (yw 0), .ref v0]) rfl (by simp only [yl_lit, yL_lit, yw_add, yw_sub, yw_mul, yw_neg, yl_add, yl_sub, yl_mul, cj_and, cj_or, cj_xor, cj_shl, cj_shr, cj_ushr, cj_div, cj_i2c, cj_i2b, cj_dc, ck_and, ck_or, ck_xor, ck_shl, ck_shr, ck_ushr, ck_i2l, ck_l2i, ck_cmp]) ?_
    exact xZ.sub (xsc (.head _) (xsc (.tail _ (.head _)) xsn)) (show ([0, 1, 2] : List Nat).Nodup from by decide) (k_f_LRule_draw_47 O f d v0 v1 v0 0 M3)
  · skip
    refine xZ.adv (me := xm17) hP_17 4 (pc' := 31) (lv' := [(0, .ref v0), (1, .ref v1), (2, .int (yw v2))]) (st' := [.int (4 : Int32), .ref v1, .ref v1, .int (1 : Int32), .ref v0]) rfl ?_
    refine xZ.eqs (lv2 := [(0, .ref v0), (1, .ref v1), (2, .int (yw v2))]) (st2 := [.int (yw 4), .ref v1, .ref v1, .int (yw 1), .ref v0]) rfl (by simp only [yl_lit, yL_lit, yw_add, yw_sub, yw_mul, yw_neg, yl_add, yl_sub, yl_mul, cj_and, cj_or, cj_xor, cj_shl, cj_shr, cj_ushr, cj_div, cj_i2c, cj_i2b, cj_dc, ck_and, ck_or, ck_xor, ck_shl, ck_shr, ck_ushr, ck_i2l, ck_l2i, ck_cmp]) ?_
    refine xZ.callv (κ := oJ) (av := [.int (yw 4)]) (rest := [.ref v1, .int (yw 1), .ref v0]) (st' := fun x3 => [.int (yw x3), .ref v1, .int (yw 1), .ref v0]) (k0 := v1) (me := xm17) hP_17 rfl (Or.inl rfl) ⟨rfl, by decide⟩ rfl rfl (Nat.le_of_ble_eq_true rfl) (by decide) hP_18 (Nat.le_of_ble_eq_true rfl) (fun _ => rfl) (k_f_LDraw_is O f (d + 0) v1 4 M3) (fun x3 M4 => ?_)
    refine xZ.jf_eq (me := xm17) hP_17 rfl (fun h2 => ?_) (fun h2 => ?_)
    · skip
      refine xZ.adv (me := xm17) hP_17 1 (pc' := 43) (lv' := [(0, .ref v0), (1, .ref v1), (2, .int (yw v2))]) (st' := [.int (3 : Int32), .ref v1, .int (yw 1), .ref v0]) rfl ?_
      refine xZ.eqs (lv2 := [(0, .ref v0), (1, .ref v1), (2, .int (yw v2))]) (st2 := [.int (yw 3), .ref v1, .int (yw 1), .ref v0]) rfl (by simp only [yl_lit, yL_lit, yw_add, yw_sub, yw_mul, yw_neg, yl_add, yl_sub, yl_mul, cj_and, cj_or, cj_xor, cj_shl, cj_shr, cj_ushr, cj_div, cj_i2c, cj_i2b, cj_dc, ck_and, ck_or, ck_xor, ck_shl, ck_shr, ck_ushr, ck_i2l, ck_l2i, ck_cmp]) ?_
      exact xZ.sub (xsc (.head _) (xsc (.tail _ (.head _)) xsn)) (show ([0, 1, 2] : List Nat).Nodup from by decide) (k_f_LRule_draw_43 O f d v0 v1 v0 1 v1 3 M4)
    · skip
      refine xZ.adv (me := xm17) hP_17 2 (pc' := 43) (lv' := [(0, .ref v0), (1, .ref v1), (2, .int (yw v2))]) (st' := [.int (20 : Int32), .ref v1, .int (yw 1), .ref v0]) rfl ?_
      refine xZ.eqs (lv2 := [(0, .ref v0), (1, .ref v1), (2, .int (yw v2))]) (st2 := [.int (yw 20), .ref v1, .int (yw 1), .ref v0]) rfl (by simp only [yl_lit, yL_lit, yw_add, yw_sub, yw_mul, yw_neg, yl_add, yl_sub, yl_mul, cj_and, cj_or, cj_xor, cj_shl, cj_shr, cj_ushr, cj_div, cj_i2c, cj_i2b, cj_dc, ck_and, ck_or, ck_xor, ck_shl, ck_shr, ck_ushr, ck_i2l, ck_l2i, ck_cmp]) ?_
      exact xZ.sub (xsc (.head _) (xsc (.tail _ (.head _)) xsn)) (show ([0, 1, 2] : List Nat).Nodup from by decide) (k_f_LRule_draw_43 O f d v0 v1 v0 1 v1 20 M4)
