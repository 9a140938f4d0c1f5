/-! ===== texts ===== -/
def f_Math_max (O : Nat → Option va_E) (f : Nat) (v0 : Int) (v1 : Int) (M : xM) : Option (Int × xM) :=
  if yw v0 < yw v1 then (
    some (v1, M)
  ) else
  some (v0, M)
set_option maxRecDepth 20000 in
theorem k_f_Math_max (O : Nat → Option va_E) (f d : Nat) (v0 : Int) (v1 : Int) (M : xM) : xZ oJ O (d + 0) 247 0 [(0, .int (yw v0)), (1, .int (yw v1))] [] M (f_Math_max O f v0 v1 M) := by
  unfold f_Math_max
  refine xZ.adv (me := xm247) hP_247 2 (pc' := 2) (lv' := [(0, .int (yw v0)), (1, .int (yw v1))]) (st' := [.int (yw v1), .int (yw v0)]) rfl ?_
  refine xZ.jc_lt (me := xm247) hP_247 rfl (fun h1 => ?_) (fun h1 => ?_)
  · skip
    refine xZ.adv (me := xm247) hP_247 1 (pc' := 10) (lv' := [(0, .int (yw v0)), (1, .int (yw v1))]) (st' := [.int (yw v1)]) rfl ?_
    exact xZ.jreti (me := xm247) hP_247 rfl rfl
  · skip
    refine xZ.adv (me := xm247) hP_247 2 (pc' := 10) (lv' := [(0, .int (yw v0)), (1, .int (yw v1))]) (st' := [.int (yw v0)]) rfl ?_
    exact xZ.jreti (me := xm247) hP_247 rfl rfl
def f_Rule_monthStep_23 (O : Nat → Option va_E) (f : Nat) (s0 : Int) (s1 : Int) (M : xM) : Option (Int × xM) :=
  xcl (f_Math_max O f s0 s1 M) fun x1 M1 =>
  some (x1, M1)
set_option maxRecDepth 20000 in
theorem k_f_Rule_monthStep_23 (O : Nat → Option va_E) (f d : Nat) (s0 : Int) (s1 : Int) (M : xM) : xZ oJ O (d + 1) 51 23 [] [.int (yw s1), .int (yw s0)] M (f_Rule_monthStep_23 O f s0 s1 M) := by
  unfold f_Rule_monthStep_23
  refine xZ.calls (κ := oJ) (av := [.int (yw s0), .int (yw s1)]) (rest := []) (st' := fun x1 => [.int (yw x1)]) (me := xm51) hP_51 rfl rfl rfl (Nat.le_of_ble_eq_true rfl) (by decide) hP_247 (Nat.le_of_ble_eq_true rfl) (fun _ => rfl) (k_f_Math_max O f (d + 0) s0 s1 M) (fun x1 M1 => ?_)
  exact xZ.jreti (me := xm51) hP_51 rfl rfl
def f_Rule_monthStep (O : Nat → Option va_E) (f : Nat) (v0 : Nat) (M : xM) : Option (Int × xM) :=
  (gJ O M v0 9 1).bind fun x1 =>
  if yw x1 = yw 5 then (
    (gJ O M v0 9 2).bind fun x2 =>
    f_Rule_monthStep_23 O f 1 (12 * x2) M
  ) else
  (gJ O M v0 9 2).bind fun x3 =>
  f_Rule_monthStep_23 O f 1 x3 M
set_option maxRecDepth 20000 in
theorem k_f_Rule_monthStep (O : Nat → Option va_E) (f d : Nat) (v0 : Nat) (M : xM) : xZ oJ O (d + 1) 51 0 [(0, .ref v0)] [] M (f_Rule_monthStep O f v0 M) := by
  unfold f_Rule_monthStep
  refine xZ.adv (me := xm51) hP_51 2 (pc' := 2) (lv' := [(0, .ref v0)]) (st' := [.ref v0, .int (1 : Int32)]) rfl ?_
  refine xZ.eqs (lv2 := [(0, .ref v0)]) (st2 := [.ref v0, .int (yw 1)]) rfl (by simp only [yl_lit, yL_lit, yw_add, yw_sub, yw_mul, yw_neg, yl_add, yl_sub, yl_mul, cj_and, cj_or, cj_xor, cj_shl, cj_shr, cj_ushr, cj_div, cj_i2c, cj_i2b, cj_dc, ck_and, ck_or, ck_xor, ck_shl, ck_shr, ck_ushr, ck_i2l, ck_l2i, ck_cmp]) ?_
  refine xZ.k_gJ (me := xm51) hP_51 rfl (fun x1 => ?_)
  refine xZ.adv (me := xm51) hP_51 1 (pc' := 6) (lv' := [(0, .ref v0)]) (st' := [.int (5 : Int32), .int (yw x1), .int (yw 1)]) rfl ?_
  refine xZ.eqs (lv2 := [(0, .ref v0)]) (st2 := [.int (yw 5), .int (yw x1), .int (yw 1)]) rfl (by simp only [yl_lit, yL_lit, yw_add, yw_sub, yw_mul, yw_neg, yl_add, yl_sub, yl_mul, cj_and, cj_or, cj_xor, cj_shl, cj_shr, cj_ushr, cj_div, cj_i2c, cj_i2b, cj_dc, ck_and, ck_or, ck_xor, ck_shl, ck_shr, ck_ushr, ck_i2l, ck_l2i, ck_cmp]) ?_
  refine xZ.jc_ne (me := xm51) hP_51 rfl (fun h1 => ?_) (fun h1 => ?_)
  · skip
    refine xZ.adv (me := xm51) hP_51 2 (pc' := 12) (lv' := [(0, .ref v0)]) (st' := [.ref v0, .int (12 : Int32), .int (yw 1)]) rfl ?_
    refine xZ.eqs (lv2 := [(0, .ref v0)]) (st2 := [.ref v0, .int (yw 12), .int (yw 1)]) rfl (by simp only [yl_lit, yL_lit, yw_add, yw_sub, yw_mul, yw_neg, yl_add, yl_sub, yl_mul, cj_and, cj_or, cj_xor, cj_shl, cj_shr, cj_ushr, cj_div, cj_i2c, cj_i2b, cj_dc, ck_and, ck_or, ck_xor, ck_shl, ck_shr, ck_ushr, ck_i2l, ck_l2i, ck_cmp]) ?_
    refine xZ.k_gJ (me := xm51) hP_51 rfl (fun x2 => ?_)
    refine xZ.adv (me := xm51) hP_51 2 (pc' := 23) (lv' := [(0, .ref v0)]) (st' := [.int ((yw 12) * (yw x2)), .int (yw 1)]) rfl ?_
    refine xZ.eqs (lv2 := [(0, .ref v0)]) (st2 := [.int (yw (12 * x2)), .int (yw 1)]) rfl (by simp only [yl_lit, yL_lit, yw_add, yw_sub, yw_mul, yw_neg, yl_add, yl_sub, yl_mul, cj_and, cj_or, cj_xor, cj_shl, cj_shr, cj_ushr, cj_div, cj_i2c, cj_i2b, cj_dc, ck_and, ck_or, ck_xor, ck_shl, ck_shr, ck_ushr, ck_i2l, ck_l2i, ck_cmp]) ?_
    exact xZ.sub xsn (show ([0] : List Nat).Nodup from by decide) (k_f_Rule_monthStep_23 O f d 1 (12 * x2) M)
  · skip
    refine xZ.adv (me := xm51) hP_51 1 (pc' := 20) (lv' := [(0, .ref v0)]) (st' := [.ref v0, .int (yw 1)]) rfl ?_
    refine xZ.k_gJ (me := xm51) hP_51 rfl (fun x3 => ?_)
    exact xZ.sub xsn (show ([0] : List Nat).Nodup from by decide) (k_f_Rule_monthStep_23 O f d 1 x3 M)
def f_Days_monthOf (O : Nat → Option va_E) (f : Nat) (v0 : Int) (M : xM) : Option (Int × xM) :=
  xlet (((v0 - 60) + 146097) - (jdiv ((v0 - 60) + 146097) 146097) * 146097) fun x1 =>
  xlet (jdiv (((x1 - (jdiv x1 1460)) + (jdiv x1 36524)) - (jdiv x1 146096)) 365) fun x2 =>
  xlet (x1 - (((365 * x2) + (jdiv x2 4)) - (jdiv x2 100))) fun x3 =>
  some (((((x2 * 12) + (jdiv ((5 * x3) + 2) 153)) + 2) - (jdiv (((x2 * 12) + (jdiv ((5 * x3) + 2) 153)) + 2) 4800) * 4800), M)
set_option maxRecDepth 20000 in
theorem k_f_Days_monthOf (O : Nat → Option va_E) (f d : Nat) (v0 : Int) (M : xM) : xZ oJ O (d + 0) 52 0 [(0, .int (yw v0))] [] M (f_Days_monthOf O f v0 M) := by
  unfold f_Days_monthOf
  refine xZ.adv (me := xm52) hP_52 8 (pc' := 11) (lv' := [(1, .int ((((yw v0) - (60 : Int32)) + (146097 : Int32)) - (((yw v0) - (60 : Int32)) + (146097 : Int32)) / (146097 : Int32) * (146097 : Int32))), (0, .int (yw v0))]) (st' := []) rfl ?_
  refine xZ.eqs (lv2 := [(1, .int (yw (((v0 - 60) + 146097) - (jdiv ((v0 - 60) + 146097) 146097) * 146097))), (0, .int (yw v0))]) (st2 := []) (by simp only [yl_lit, yL_lit, yw_add, yw_sub, yw_mul, yw_neg, yl_add, yl_sub, yl_mul, cj_and, cj_or, cj_xor, cj_shl, cj_shr, cj_ushr, cj_div, cj_i2c, cj_i2b, cj_dc, ck_and, ck_or, ck_xor, ck_shl, ck_shr, ck_ushr, ck_i2l, ck_l2i, ck_cmp]) rfl ?_
  refine xZ.letI (v := (((v0 - 60) + 146097) - (jdiv ((v0 - 60) + 146097) 146097) * 146097)) (lvf := fun x1 => [(1, .int (yw x1)), (0, .int (yw v0))]) (stf := fun x1 => []) ?_
  intro x1
  refine xZ.adv (me := xm52) hP_52 16 (pc' := 33) (lv' := [(2, .int (((((yw x1) - ((yw x1) / (1460 : Int32))) + ((yw x1) / (36524 : Int32))) - ((yw x1) / (146096 : Int32))) / (365 : Int32))), (1, .int (yw x1)), (0, .int (yw v0))]) (st' := []) rfl ?_
  refine xZ.eqs (lv2 := [(2, .int (yw (jdiv (((x1 - (jdiv x1 1460)) + (jdiv x1 36524)) - (jdiv x1 146096)) 365))), (1, .int (yw x1)), (0, .int (yw v0))]) (st2 := []) (by simp only [yl_lit, yL_lit, yw_add, yw_sub, yw_mul, yw_neg, yl_add, yl_sub, yl_mul, cj_and, cj_or, cj_xor, cj_shl, cj_shr, cj_ushr, cj_div, cj_i2c, cj_i2b, cj_dc, ck_and, ck_or, ck_xor, ck_shl, ck_shr, ck_ushr, ck_i2l, ck_l2i, ck_cmp]) rfl ?_
  refine xZ.letI (v := (jdiv (((x1 - (jdiv x1 1460)) + (jdiv x1 36524)) - (jdiv x1 146096)) 365)) (lvf := fun x2 => [(2, .int (yw x2)), (1, .int (yw x1)), (0, .int (yw v0))]) (stf := fun x2 => []) ?_
  intro x2
  refine xZ.adv (me := xm52) hP_52 14 (pc' := 50) (lv' := [(3, .int ((yw x1) - ((((365 : Int32) * (yw x2)) + ((yw x2) / (4 : Int32))) - ((yw x2) / (100 : Int32))))), (2, .int (yw x2)), (1, .int (yw x1)), (0, .int (yw v0))]) (st' := []) rfl ?_
  refine xZ.eqs (lv2 := [(3, .int (yw (x1 - (((365 * x2) + (jdiv x2 4)) - (jdiv x2 100))))), (2, .int (yw x2)), (1, .int (yw x1)), (0, .int (yw v0))]) (st2 := []) (by simp only [yl_lit, yL_lit, yw_add, yw_sub, yw_mul, yw_neg, yl_add, yl_sub, yl_mul, cj_and, cj_or, cj_xor, cj_shl, cj_shr, cj_ushr, cj_div, cj_i2c, cj_i2b, cj_dc, ck_and, ck_or, ck_xor, ck_shl, ck_shr, ck_ushr, ck_i2l, ck_l2i, ck_cmp]) rfl ?_
  refine xZ.letI (v := (x1 - (((365 * x2) + (jdiv x2 4)) - (jdiv x2 100)))) (lvf := fun x3 => [(3, .int (yw x3)), (2, .int (yw x2)), (1, .int (yw x1)), (0, .int (yw v0))]) (stf := fun x3 => []) ?_
  intro x3
  refine xZ.adv (me := xm52) hP_52 17 (pc' := 74) (lv' := [(4, .int ((((5 : Int32) * (yw x3)) + (2 : Int32)) / (153 : Int32))), (3, .int (yw x3)), (2, .int (yw x2)), (1, .int (yw x1)), (0, .int (yw v0))]) (st' := [.int (((((yw x2) * (12 : Int32)) + ((((5 : Int32) * (yw x3)) + (2 : Int32)) / (153 : Int32))) + (2 : Int32)) - ((((yw x2) * (12 : Int32)) + ((((5 : Int32) * (yw x3)) + (2 : Int32)) / (153 : Int32))) + (2 : Int32)) / (4800 : Int32) * (4800 : Int32))]) rfl ?_
  refine xZ.eqs (lv2 := [(4, .int (yw (jdiv ((5 * x3) + 2) 153))), (3, .int (yw x3)), (2, .int (yw x2)), (1, .int (yw x1)), (0, .int (yw v0))]) (st2 := [.int (yw ((((x2 * 12) + (jdiv ((5 * x3) + 2) 153)) + 2) - (jdiv (((x2 * 12) + (jdiv ((5 * x3) + 2) 153)) + 2) 4800) * 4800))]) (by simp only [yl_lit, yL_lit, yw_add, yw_sub, yw_mul, yw_neg, yl_add, yl_sub, yl_mul, cj_and, cj_or, cj_xor, cj_shl, cj_shr, cj_ushr, cj_div, cj_i2c, cj_i2b, cj_dc, ck_and, ck_or, ck_xor, ck_shl, ck_shr, ck_ushr, ck_i2l, ck_l2i, ck_cmp]) (by simp only [yl_lit, yL_lit, yw_add, yw_sub, yw_mul, yw_neg, yl_add, yl_sub, yl_mul, cj_and, cj_or, cj_xor, cj_shl, cj_shr, cj_ushr, cj_div, cj_i2c, cj_i2b, cj_dc, ck_and, ck_or, ck_xor, ck_shl, ck_shr, ck_ushr, ck_i2l, ck_l2i, ck_cmp]) ?_
  exact xZ.jreti (me := xm52) hP_52 rfl rfl
def f_Days_monthBegin (O : Nat → Option va_E) (f : Nat) (v0 : Int) (M : xM) : Option (Int × xM) :=
  xlet (((v0 - 2) + 4800) - (jdiv ((v0 - 2) + 4800) 4800) * 4800) fun x1 =>
  xlet (jdiv ((153 * (x1 - (jdiv x1 12) * 12)) + 2) 5) fun x2 =>
  xlet ((((((365 * (jdiv x1 12)) + (jdiv (jdiv x1 12) 4)) - (jdiv (jdiv x1 12) 100)) + x2) + 60) - (jdiv (((((365 * (jdiv x1 12)) + (jdiv (jdiv x1 12) 4)) - (jdiv (jdiv x1 12) 100)) + x2) + 60) 146097) * 146097) fun x3 =>
  some (x3, M)
set_option maxRecDepth 20000 in
theorem k_f_Days_monthBegin (O : Nat → Option va_E) (f d : Nat) (v0 : Int) (M : xM) : xZ oJ O (d + 0) 54 0 [(0, .int (yw v0))] [] M (f_Days_monthBegin O f v0 M) := by
  unfold f_Days_monthBegin
  refine xZ.adv (me := xm54) hP_54 8 (pc' := 12) (lv' := [(1, .int ((((yw v0) - (2 : Int32)) + (4800 : Int32)) - (((yw v0) - (2 : Int32)) + (4800 : Int32)) / (4800 : Int32) * (4800 : Int32))), (0, .int (yw v0))]) (st' := []) rfl ?_
  refine xZ.eqs (lv2 := [(1, .int (yw (((v0 - 2) + 4800) - (jdiv ((v0 - 2) + 4800) 4800) * 4800))), (0, .int (yw v0))]) (st2 := []) (by simp only [yl_lit, yL_lit, yw_add, yw_sub, yw_mul, yw_neg, yl_add, yl_sub, yl_mul, cj_and, cj_or, cj_xor, cj_shl, cj_shr, cj_ushr, cj_div, cj_i2c, cj_i2b, cj_dc, ck_and, ck_or, ck_xor, ck_shl, ck_shr, ck_ushr, ck_i2l, ck_l2i, ck_cmp]) rfl ?_
  refine xZ.letI (v := (((v0 - 2) + 4800) - (jdiv ((v0 - 2) + 4800) 4800) * 4800)) (lvf := fun x1 => [(1, .int (yw x1)), (0, .int (yw v0))]) (stf := fun x1 => []) ?_
  intro x1
  refine xZ.adv (me := xm54) hP_54 14 (pc' := 30) (lv' := [(3, .int ((((153 : Int32) * ((yw x1) - (yw x1) / (12 : Int32) * (12 : Int32))) + (2 : Int32)) / (5 : Int32))), (2, .int ((yw x1) / (12 : Int32))), (1, .int (yw x1)), (0, .int (yw v0))]) (st' := []) rfl ?_
  refine xZ.eqs (lv2 := [(3, .int (yw (jdiv ((153 * (x1 - (jdiv x1 12) * 12)) + 2) 5))), (2, .int (yw (jdiv x1 12))), (1, .int (yw x1)), (0, .int (yw v0))]) (st2 := []) (by simp only [yl_lit, yL_lit, yw_add, yw_sub, yw_mul, yw_neg, yl_add, yl_sub, yl_mul, cj_and, cj_or, cj_xor, cj_shl, cj_shr, cj_ushr, cj_div, cj_i2c, cj_i2b, cj_dc, ck_and, ck_or, ck_xor, ck_shl, ck_shr, ck_ushr, ck_i2l, ck_l2i, ck_cmp]) rfl ?_
  refine xZ.letI (v := (jdiv ((153 * (x1 - (jdiv x1 12) * 12)) + 2) 5)) (lvf := fun x2 => [(3, .int (yw x2)), (2, .int (yw (jdiv x1 12))), (1, .int (yw x1)), (0, .int (yw v0))]) (stf := fun x2 => []) ?_
  intro x2
  refine xZ.adv (me := xm54) hP_54 17 (pc' := 52) (lv' := [(3, .int (yw x2)), (2, .int (yw (jdiv x1 12))), (1, .int (yw x1)), (0, .int (yw v0))]) (st' := [.int (((((((365 : Int32) * (yw (jdiv x1 12))) + ((yw (jdiv x1 12)) / (4 : Int32))) - ((yw (jdiv x1 12)) / (100 : Int32))) + (yw x2)) + (60 : Int32)) - ((((((365 : Int32) * (yw (jdiv x1 12))) + ((yw (jdiv x1 12)) / (4 : Int32))) - ((yw (jdiv x1 12)) / (100 : Int32))) + (yw x2)) + (60 : Int32)) / (146097 : Int32) * (146097 : Int32))]) rfl ?_
  refine xZ.eqs (lv2 := [(3, .int (yw x2)), (2, .int (yw (jdiv x1 12))), (1, .int (yw x1)), (0, .int (yw v0))]) (st2 := [.int (yw ((((((365 * (jdiv x1 12)) + (jdiv (jdiv x1 12) 4)) - (jdiv (jdiv x1 12) 100)) + x2) + 60) - (jdiv (((((365 * (jdiv x1 12)) + (jdiv (jdiv x1 12) 4)) - (jdiv (jdiv x1 12) 100)) + x2) + 60) 146097) * 146097))]) rfl (by simp only [yl_lit, yL_lit, yw_add, yw_sub, yw_mul, yw_neg, yl_add, yl_sub, yl_mul, cj_and, cj_or, cj_xor, cj_shl, cj_shr, cj_ushr, cj_div, cj_i2c, cj_i2b, cj_dc, ck_and, ck_or, ck_xor, ck_shl, ck_shr, ck_ushr, ck_i2l, ck_l2i, ck_cmp]) ?_
  refine xZ.letI (v := ((((((365 * (jdiv x1 12)) + (jdiv (jdiv x1 12) 4)) - (jdiv (jdiv x1 12) 100)) + x2) + 60) - (jdiv (((((365 * (jdiv x1 12)) + (jdiv (jdiv x1 12) 4)) - (jdiv (jdiv x1 12) 100)) + x2) + 60) 146097) * 146097)) (lvf := fun x3 => [(3, .int (yw x2)), (2, .int (yw (jdiv x1 12))), (1, .int (yw x1)), (0, .int (yw v0))]) (stf := fun x3 => [.int (yw x3)]) ?_
  intro x3
  exact xZ.jreti (me := xm54) hP_54 rfl rfl
def f_Days_monthLength (O : Nat → Option va_E) (f : Nat) (v0 : Int) (M : xM) : Option (Int × xM) :=
  xlet ((v0 - (jdiv v0 12) * 12) + 1) fun x1 =>
  if yw x1 = yw 2 then (
    if yw ((jdiv v0 12) - (jdiv (jdiv v0 12) 4) * 4) = yw 0 then (
      if yw ((jdiv v0 12) - (jdiv (jdiv v0 12) 100) * 100) = yw 0 then (
        if yw ((jdiv v0 12) - (jdiv (jdiv v0 12) 400) * 400) = yw 0 then (
          some (29, M)
        ) else
        some (28, M)
      ) else
      some (29, M)
    ) else
    some (28, M)
  ) else
  if yw x1 = yw 4 then (
    some (30, M)
  ) else
  if yw x1 = yw 6 then (
    some (30, M)
  ) else
  if yw x1 = yw 9 then (
    some (30, M)
  ) else
  if yw x1 = yw 11 then (
    some (30, M)
  ) else
  some (31, M)
set_option maxRecDepth 20000 in
theorem k_f_Days_monthLength (O : Nat → Option va_E) (f d : Nat) (v0 : Int) (M : xM) : xZ oJ O (d + 0) 55 0 [(0, .int (yw v0))] [] M (f_Days_monthLength O f v0 M) := by
  unfold f_Days_monthLength
  refine xZ.adv (me := xm55) hP_55 6 (pc' := 7) (lv' := [(1, .int (((yw v0) - (yw v0) / (12 : Int32) * (12 : Int32)) + (1 : Int32))), (0, .int (yw v0))]) (st' := []) rfl ?_
  refine xZ.eqs (lv2 := [(1, .int (yw ((v0 - (jdiv v0 12) * 12) + 1))), (0, .int (yw v0))]) (st2 := []) (by simp only [yl_lit, yL_lit, yw_add, yw_sub, yw_mul, yw_neg, yl_add, yl_sub, yl_mul, cj_and, cj_or, cj_xor, cj_shl, cj_shr, cj_ushr, cj_div, cj_i2c, cj_i2b, cj_dc, ck_and, ck_or, ck_xor, ck_shl, ck_shr, ck_ushr, ck_i2l, ck_l2i, ck_cmp]) rfl ?_
  refine xZ.letI (v := ((v0 - (jdiv v0 12) * 12) + 1)) (lvf := fun x1 => [(1, .int (yw x1)), (0, .int (yw v0))]) (stf := fun x1 => []) ?_
  intro x1
  refine xZ.adv (me := xm55) hP_55 6 (pc' := 14) (lv' := [(2, .int ((yw v0) / (12 : Int32))), (1, .int (yw x1)), (0, .int (yw v0))]) (st' := [.int (2 : Int32), .int (yw x1)]) rfl ?_
  refine xZ.eqs (lv2 := [(2, .int (yw (jdiv v0 12))), (1, .int (yw x1)), (0, .int (yw v0))]) (st2 := [.int (yw 2), .int (yw x1)]) (by simp only [yl_lit, yL_lit, yw_add, yw_sub, yw_mul, yw_neg, yl_add, yl_sub, yl_mul, cj_and, cj_or, cj_xor, cj_shl, cj_shr, cj_ushr, cj_div, cj_i2c, cj_i2b, cj_dc, ck_and, ck_or, ck_xor, ck_shl, ck_shr, ck_ushr, ck_i2l, ck_l2i, ck_cmp]) (by simp only [yl_lit, yL_lit, yw_add, yw_sub, yw_mul, yw_neg, yl_add, yl_sub, yl_mul, cj_and, cj_or, cj_xor, cj_shl, cj_shr, cj_ushr, cj_div, cj_i2c, cj_i2b, cj_dc, ck_and, ck_or, ck_xor, ck_shl, ck_shr, ck_ushr, ck_i2l, ck_l2i, ck_cmp]) ?_
  refine xZ.jc_eq (me := xm55) hP_55 rfl (fun h1 => ?_) (fun h1 => ?_)
  · skip
    refine xZ.adv (me := xm55) hP_55 3 (pc' := 51) (lv' := [(2, .int (yw (jdiv v0 12))), (1, .int (yw x1)), (0, .int (yw v0))]) (st' := [.int ((yw (jdiv v0 12)) - (yw (jdiv v0 12)) / (4 : Int32) * (4 : Int32))]) rfl ?_
    refine xZ.eqs (lv2 := [(2, .int (yw (jdiv v0 12))), (1, .int (yw x1)), (0, .int (yw v0))]) (st2 := [.int (yw ((jdiv v0 12) - (jdiv (jdiv v0 12) 4) * 4))]) rfl (by simp only [yl_lit, yL_lit, yw_add, yw_sub, yw_mul, yw_neg, yl_add, yl_sub, yl_mul, cj_and, cj_or, cj_xor, cj_shl, cj_shr, cj_ushr, cj_div, cj_i2c, cj_i2b, cj_dc, ck_and, ck_or, ck_xor, ck_shl, ck_shr, ck_ushr, ck_i2l, ck_l2i, ck_cmp]) ?_
    refine xZ.jf_ne (me := xm55) hP_55 rfl (fun h2 => ?_) (fun h2 => ?_)
    · skip
      refine xZ.adv (me := xm55) hP_55 3 (pc' := 58) (lv' := [(2, .int (yw (jdiv v0 12))), (1, .int (yw x1)), (0, .int (yw v0))]) (st' := [.int ((yw (jdiv v0 12)) - (yw (jdiv v0 12)) / (100 : Int32) * (100 : Int32))]) rfl ?_
      refine xZ.eqs (lv2 := [(2, .int (yw (jdiv v0 12))), (1, .int (yw x1)), (0, .int (yw v0))]) (st2 := [.int (yw ((jdiv v0 12) - (jdiv (jdiv v0 12) 100) * 100))]) rfl (by simp only [yl_lit, yL_lit, yw_add, yw_sub, yw_mul, yw_neg, yl_add, yl_sub, yl_mul, cj_and, cj_or, cj_xor, cj_shl, cj_shr, cj_ushr, cj_div, cj_i2c, cj_i2b, cj_dc, ck_and, ck_or, ck_xor, ck_shl, ck_shr, ck_ushr, ck_i2l, ck_l2i, ck_cmp]) ?_
      refine xZ.jf_ne (me := xm55) hP_55 rfl (fun h3 => ?_) (fun h3 => ?_)
      · skip
        refine xZ.adv (me := xm55) hP_55 3 (pc' := 66) (lv' := [(2, .int (yw (jdiv v0 12))), (1, .int (yw x1)), (0, .int (yw v0))]) (st' := [.int ((yw (jdiv v0 12)) - (yw (jdiv v0 12)) / (400 : Int32) * (400 : Int32))]) rfl ?_
        refine xZ.eqs (lv2 := [(2, .int (yw (jdiv v0 12))), (1, .int (yw x1)), (0, .int (yw v0))]) (st2 := [.int (yw ((jdiv v0 12) - (jdiv (jdiv v0 12) 400) * 400))]) rfl (by simp only [yl_lit, yL_lit, yw_add, yw_sub, yw_mul, yw_neg, yl_add, yl_sub, yl_mul, cj_and, cj_or, cj_xor, cj_shl, cj_shr, cj_ushr, cj_div, cj_i2c, cj_i2b, cj_dc, ck_and, ck_or, ck_xor, ck_shl, ck_shr, ck_ushr, ck_i2l, ck_l2i, ck_cmp]) ?_
        refine xZ.jf_ne (me := xm55) hP_55 rfl (fun h4 => ?_) (fun h4 => ?_)
        · skip
          refine xZ.adv (me := xm55) hP_55 2 (pc' := 76) (lv' := [(2, .int (yw (jdiv v0 12))), (1, .int (yw x1)), (0, .int (yw v0))]) (st' := [.int (29 : Int32)]) rfl ?_
          refine xZ.eqs (lv2 := [(2, .int (yw (jdiv v0 12))), (1, .int (yw x1)), (0, .int (yw v0))]) (st2 := [.int (yw 29)]) rfl (by simp only [yl_lit, yL_lit, yw_add, yw_sub, yw_mul, yw_neg, yl_add, yl_sub, yl_mul, cj_and, cj_or, cj_xor, cj_shl, cj_shr, cj_ushr, cj_div, cj_i2c, cj_i2b, cj_dc, ck_and, ck_or, ck_xor, ck_shl, ck_shr, ck_ushr, ck_i2l, ck_l2i, ck_cmp]) ?_
          exact xZ.jreti (me := xm55) hP_55 rfl rfl
        · skip
          refine xZ.adv (me := xm55) hP_55 1 (pc' := 76) (lv' := [(2, .int (yw (jdiv v0 12))), (1, .int (yw x1)), (0, .int (yw v0))]) (st' := [.int (28 : Int32)]) rfl ?_
          refine xZ.eqs (lv2 := [(2, .int (yw (jdiv v0 12))), (1, .int (yw x1)), (0, .int (yw v0))]) (st2 := [.int (yw 28)]) rfl (by simp only [yl_lit, yL_lit, yw_add, yw_sub, yw_mul, yw_neg, yl_add, yl_sub, yl_mul, cj_and, cj_or, cj_xor, cj_shl, cj_shr, cj_ushr, cj_div, cj_i2c, cj_i2b, cj_dc, ck_and, ck_or, ck_xor, ck_shl, ck_shr, ck_ushr, ck_i2l, ck_l2i, ck_cmp]) ?_
          exact xZ.jreti (me := xm55) hP_55 rfl rfl
      · skip
        refine xZ.adv (me := xm55) hP_55 2 (pc' := 76) (lv' := [(2, .int (yw (jdiv v0 12))), (1, .int (yw x1)), (0, .int (yw v0))]) (st' := [.int (29 : Int32)]) rfl ?_
        refine xZ.eqs (lv2 := [(2, .int (yw (jdiv v0 12))), (1, .int (yw x1)), (0, .int (yw v0))]) (st2 := [.int (yw 29)]) rfl (by simp only [yl_lit, yL_lit, yw_add, yw_sub, yw_mul, yw_neg, yl_add, yl_sub, yl_mul, cj_and, cj_or, cj_xor, cj_shl, cj_shr, cj_ushr, cj_div, cj_i2c, cj_i2b, cj_dc, ck_and, ck_or, ck_xor, ck_shl, ck_shr, ck_ushr, ck_i2l, ck_l2i, ck_cmp]) ?_
        exact xZ.jreti (me := xm55) hP_55 rfl rfl
    · skip
      refine xZ.adv (me := xm55) hP_55 1 (pc' := 76) (lv' := [(2, .int (yw (jdiv v0 12))), (1, .int (yw x1)), (0, .int (yw v0))]) (st' := [.int (28 : Int32)]) rfl ?_
      refine xZ.eqs (lv2 := [(2, .int (yw (jdiv v0 12))), (1, .int (yw x1)), (0, .int (yw v0))]) (st2 := [.int (yw 28)]) rfl (by simp only [yl_lit, yL_lit, yw_add, yw_sub, yw_mul, yw_neg, yl_add, yl_sub, yl_mul, cj_and, cj_or, cj_xor, cj_shl, cj_shr, cj_ushr, cj_div, cj_i2c, cj_i2b, cj_dc, ck_and, ck_or, ck_xor, ck_shl, ck_shr, ck_ushr, ck_i2l, ck_l2i, ck_cmp]) ?_
      exact xZ.jreti (me := xm55) hP_55 rfl rfl
  · skip
    refine xZ.adv (me := xm55) hP_55 2 (pc' := 19) (lv' := [(2, .int (yw (jdiv v0 12))), (1, .int (yw x1)), (0, .int (yw v0))]) (st' := [.int (4 : Int32), .int (yw x1)]) rfl ?_
    refine xZ.eqs (lv2 := [(2, .int (yw (jdiv v0 12))), (1, .int (yw x1)), (0, .int (yw v0))]) (st2 := [.int (yw 4), .int (yw x1)]) rfl (by simp only [yl_lit, yL_lit, yw_add, yw_sub, yw_mul, yw_neg, yl_add, yl_sub, yl_mul, cj_and, cj_or, cj_xor, cj_shl, cj_shr, cj_ushr, cj_div, cj_i2c, cj_i2b, cj_dc, ck_and, ck_or, ck_xor, ck_shl, ck_shr, ck_ushr, ck_i2l, ck_l2i, ck_cmp]) ?_
    refine xZ.jc_eq (me := xm55) hP_55 rfl (fun h5 => ?_) (fun h5 => ?_)
    · skip
      refine xZ.adv (me := xm55) hP_55 2 (pc' := 47) (lv' := [(2, .int (yw (jdiv v0 12))), (1, .int (yw x1)), (0, .int (yw v0))]) (st' := [.int (30 : Int32)]) rfl ?_
      refine xZ.eqs (lv2 := [(2, .int (yw (jdiv v0 12))), (1, .int (yw x1)), (0, .int (yw v0))]) (st2 := [.int (yw 30)]) rfl (by simp only [yl_lit, yL_lit, yw_add, yw_sub, yw_mul, yw_neg, yl_add, yl_sub, yl_mul, cj_and, cj_or, cj_xor, cj_shl, cj_shr, cj_ushr, cj_div, cj_i2c, cj_i2b, cj_dc, ck_and, ck_or, ck_xor, ck_shl, ck_shr, ck_ushr, ck_i2l, ck_l2i, ck_cmp]) ?_
      exact xZ.jreti (me := xm55) hP_55 rfl rfl
    · skip
      refine xZ.adv (me := xm55) hP_55 2 (pc' := 25) (lv' := [(2, .int (yw (jdiv v0 12))), (1, .int (yw x1)), (0, .int (yw v0))]) (st' := [.int (6 : Int32), .int (yw x1)]) rfl ?_
      refine xZ.eqs (lv2 := [(2, .int (yw (jdiv v0 12))), (1, .int (yw x1)), (0, .int (yw v0))]) (st2 := [.int (yw 6), .int (yw x1)]) rfl (by simp only [yl_lit, yL_lit, yw_add, yw_sub, yw_mul, yw_neg, yl_add, yl_sub, yl_mul, cj_and, cj_or, cj_xor, cj_shl, cj_shr, cj_ushr, cj_div, cj_i2c, cj_i2b, cj_dc, ck_and, ck_or, ck_xor, ck_shl, ck_shr, ck_ushr, ck_i2l, ck_l2i, ck_cmp]) ?_
      refine xZ.jc_eq (me := xm55) hP_55 rfl (fun h6 => ?_) (fun h6 => ?_)
      · skip
        refine xZ.adv (me := xm55) hP_55 2 (pc' := 47) (lv' := [(2, .int (yw (jdiv v0 12))), (1, .int (yw x1)), (0, .int (yw v0))]) (st' := [.int (30 : Int32)]) rfl ?_
        refine xZ.eqs (lv2 := [(2, .int (yw (jdiv v0 12))), (1, .int (yw x1)), (0, .int (yw v0))]) (st2 := [.int (yw 30)]) rfl (by simp only [yl_lit, yL_lit, yw_add, yw_sub, yw_mul, yw_neg, yl_add, yl_sub, yl_mul, cj_and, cj_or, cj_xor, cj_shl, cj_shr, cj_ushr, cj_div, cj_i2c, cj_i2b, cj_dc, ck_and, ck_or, ck_xor, ck_shl, ck_shr, ck_ushr, ck_i2l, ck_l2i, ck_cmp]) ?_
        exact xZ.jreti (me := xm55) hP_55 rfl rfl
      · skip
        refine xZ.adv (me := xm55) hP_55 2 (pc' := 31) (lv' := [(2, .int (yw (jdiv v0 12))), (1, .int (yw x1)), (0, .int (yw v0))]) (st' := [.int (9 : Int32), .int (yw x1)]) rfl ?_
        refine xZ.eqs (lv2 := [(2, .int (yw (jdiv v0 12))), (1, .int (yw x1)), (0, .int (yw v0))]) (st2 := [.int (yw 9), .int (yw x1)]) rfl (by simp only [yl_lit, yL_lit, yw_add, yw_sub, yw_mul, yw_neg, yl_add, yl_sub, yl_mul, cj_and, cj_or, cj_xor, cj_shl, cj_shr, cj_ushr, cj_div, cj_i2c, cj_i2b, cj_dc, ck_and, ck_or, ck_xor, ck_shl, ck_shr, ck_ushr, ck_i2l, ck_l2i, ck_cmp]) ?_
        refine xZ.jc_eq (me := xm55) hP_55 rfl (fun h7 => ?_) (fun h7 => ?_)
        · skip
          refine xZ.adv (me := xm55) hP_55 2 (pc' := 47) (lv' := [(2, .int (yw (jdiv v0 12))), (1, .int (yw x1)), (0, .int (yw v0))]) (st' := [.int (30 : Int32)]) rfl ?_
          refine xZ.eqs (lv2 := [(2, .int (yw (jdiv v0 12))), (1, .int (yw x1)), (0, .int (yw v0))]) (st2 := [.int (yw 30)]) rfl (by simp only [yl_lit, yL_lit, yw_add, yw_sub, yw_mul, yw_neg, yl_add, yl_sub, yl_mul, cj_and, cj_or, cj_xor, cj_shl, cj_shr, cj_ushr, cj_div, cj_i2c, cj_i2b, cj_dc, ck_and, ck_or, ck_xor, ck_shl, ck_shr, ck_ushr, ck_i2l, ck_l2i, ck_cmp]) ?_
          exact xZ.jreti (me := xm55) hP_55 rfl rfl
        · skip
          refine xZ.adv (me := xm55) hP_55 2 (pc' := 37) (lv' := [(2, .int (yw (jdiv v0 12))), (1, .int (yw x1)), (0, .int (yw v0))]) (st' := [.int (11 : Int32), .int (yw x1)]) rfl ?_
          refine xZ.eqs (lv2 := [(2, .int (yw (jdiv v0 12))), (1, .int (yw x1)), (0, .int (yw v0))]) (st2 := [.int (yw 11), .int (yw x1)]) rfl (by simp only [yl_lit, yL_lit, yw_add, yw_sub, yw_mul, yw_neg, yl_add, yl_sub, yl_mul, cj_and, cj_or, cj_xor, cj_shl, cj_shr, cj_ushr, cj_div, cj_i2c, cj_i2b, cj_dc, ck_and, ck_or, ck_xor, ck_shl, ck_shr, ck_ushr, ck_i2l, ck_l2i, ck_cmp]) ?_
          refine xZ.jc_ne (me := xm55) hP_55 rfl (fun h8 => ?_) (fun h8 => ?_)
          · skip
            refine xZ.adv (me := xm55) hP_55 2 (pc' := 47) (lv' := [(2, .int (yw (jdiv v0 12))), (1, .int (yw x1)), (0, .int (yw v0))]) (st' := [.int (30 : Int32)]) rfl ?_
            refine xZ.eqs (lv2 := [(2, .int (yw (jdiv v0 12))), (1, .int (yw x1)), (0, .int (yw v0))]) (st2 := [.int (yw 30)]) rfl (by simp only [yl_lit, yL_lit, yw_add, yw_sub, yw_mul, yw_neg, yl_add, yl_sub, yl_mul, cj_and, cj_or, cj_xor, cj_shl, cj_shr, cj_ushr, cj_div, cj_i2c, cj_i2b, cj_dc, ck_and, ck_or, ck_xor, ck_shl, ck_shr, ck_ushr, ck_i2l, ck_l2i, ck_cmp]) ?_
            exact xZ.jreti (me := xm55) hP_55 rfl rfl
          · skip
            refine xZ.adv (me := xm55) hP_55 1 (pc' := 47) (lv' := [(2, .int (yw (jdiv v0 12))), (1, .int (yw x1)), (0, .int (yw v0))]) (st' := [.int (31 : Int32)]) rfl ?_
            refine xZ.eqs (lv2 := [(2, .int (yw (jdiv v0 12))), (1, .int (yw x1)), (0, .int (yw v0))]) (st2 := [.int (yw 31)]) rfl (by simp only [yl_lit, yL_lit, yw_add, yw_sub, yw_mul, yw_neg, yl_add, yl_sub, yl_mul, cj_and, cj_or, cj_xor, cj_shl, cj_shr, cj_ushr, cj_div, cj_i2c, cj_i2b, cj_dc, ck_and, ck_or, ck_xor, ck_shl, ck_shr, ck_ushr, ck_i2l, ck_l2i, ck_cmp]) ?_
            exact xZ.jreti (me := xm55) hP_55 rfl rfl
def f_Math_abs (O : Nat → Option va_E) (f : Nat) (v0 : Int) (M : xM) : Option (Int × xM) :=
  if yw 0 ≤ yw v0 then (
    some (v0, M)
  ) else
  some ((-v0), M)
set_option maxRecDepth 20000 in
theorem k_f_Math_abs (O : Nat → Option va_E) (f d : Nat) (v0 : Int) (M : xM) : xZ oJ O (d + 0) 249 0 [(0, .int (yw v0))] [] M (f_Math_abs O f v0 M) := by
  unfold f_Math_abs
  refine xZ.adv (me := xm249) hP_249 1 (pc' := 1) (lv' := [(0, .int (yw v0))]) (st' := [.int (yw v0)]) rfl ?_
  refine xZ.jf_ge (me := xm249) hP_249 rfl (fun h1 => ?_) (fun h1 => ?_)
  · skip
    refine xZ.adv (me := xm249) hP_249 1 (pc' := 10) (lv' := [(0, .int (yw v0))]) (st' := [.int (yw v0)]) rfl ?_
    exact xZ.jreti (me := xm249) hP_249 rfl rfl
  · skip
    refine xZ.adv (me := xm249) hP_249 3 (pc' := 10) (lv' := [(0, .int (yw v0))]) (st' := [.int (-(yw v0))]) rfl ?_
    refine xZ.eqs (lv2 := [(0, .int (yw v0))]) (st2 := [.int (yw (-v0))]) rfl (by simp only [yl_lit, yL_lit, yw_add, yw_sub, yw_mul, yw_neg, yl_add, yl_sub, yl_mul, cj_and, cj_or, cj_xor, cj_shl, cj_shr, cj_ushr, cj_div, cj_i2c, cj_i2b, cj_dc, ck_and, ck_or, ck_xor, ck_shl, ck_shr, ck_ushr, ck_i2l, ck_l2i, ck_cmp]) ?_
    exact xZ.jreti (me := xm249) hP_249 rfl rfl
def f_Integer_bitCount (O : Nat → Option va_E) (f : Nat) (v0 : Int) (M : xM) : Option (Int × xM) :=
  xlet (v0 - (jand (jushr v0 1) 1431655765)) fun x1 =>
  xlet ((jand x1 858993459) + (jand (jushr x1 2) 858993459)) fun x2 =>
  xlet (jand (x2 + (jushr x2 4)) 252645135) fun x3 =>
  xlet ((x3 + (jushr x3 8)) + (jushr (x3 + (jushr x3 8)) 16)) fun x4 =>
  some ((jand x4 63), M)
set_option maxRecDepth 20000 in
theorem k_f_Integer_bitCount (O : Nat → Option va_E) (f d : Nat) (v0 : Int) (M : xM) : xZ oJ O (d + 0) 252 0 [(0, .int (yw v0))] [] M (f_Integer_bitCount O f v0 M) := by
  unfold f_Integer_bitCount
  refine xZ.adv (me := xm252) hP_252 8 (pc' := 10) (lv' := [(0, .int ((yw v0) - ((Int32.toUInt32 (yw v0) >>> (Int32.toUInt32 (1 : Int32) &&& Int32.toUInt32 31)).toInt32 &&& (1431655765 : Int32))))]) (st' := []) rfl ?_
  refine xZ.eqs (lv2 := [(0, .int (yw (v0 - (jand (jushr v0 1) 1431655765))))]) (st2 := []) (by simp only [yl_lit, yL_lit, yw_add, yw_sub, yw_mul, yw_neg, yl_add, yl_sub, yl_mul, cj_and, cj_or, cj_xor, cj_shl, cj_shr, cj_ushr, cj_div, cj_i2c, cj_i2b, cj_dc, ck_and, ck_or, ck_xor, ck_shl, ck_shr, ck_ushr, ck_i2l, ck_l2i, ck_cmp]) rfl ?_
  refine xZ.letI (v := (v0 - (jand (jushr v0 1) 1431655765))) (lvf := fun x1 => [(0, .int (yw x1))]) (stf := fun x1 => []) ?_
  intro x1
  refine xZ.adv (me := xm252) hP_252 10 (pc' := 24) (lv' := [(0, .int (((yw x1) &&& (858993459 : Int32)) + ((Int32.toUInt32 (yw x1) >>> (Int32.toUInt32 (2 : Int32) &&& Int32.toUInt32 31)).toInt32 &&& (858993459 : Int32))))]) (st' := []) rfl ?_
  refine xZ.eqs (lv2 := [(0, .int (yw ((jand x1 858993459) + (jand (jushr x1 2) 858993459))))]) (st2 := []) (by simp only [yl_lit, yL_lit, yw_add, yw_sub, yw_mul, yw_neg, yl_add, yl_sub, yl_mul, cj_and, cj_or, cj_xor, cj_shl, cj_shr, cj_ushr, cj_div, cj_i2c, cj_i2b, cj_dc, ck_and, ck_or, ck_xor, ck_shl, ck_shr, ck_ushr, ck_i2l, ck_l2i, ck_cmp]) rfl ?_
  refine xZ.letI (v := ((jand x1 858993459) + (jand (jushr x1 2) 858993459))) (lvf := fun x2 => [(0, .int (yw x2))]) (stf := fun x2 => []) ?_
  intro x2
  refine xZ.adv (me := xm252) hP_252 8 (pc' := 34) (lv' := [(0, .int (((yw x2) + (Int32.toUInt32 (yw x2) >>> (Int32.toUInt32 (4 : Int32) &&& Int32.toUInt32 31)).toInt32) &&& (252645135 : Int32)))]) (st' := []) rfl ?_
  refine xZ.eqs (lv2 := [(0, .int (yw (jand (x2 + (jushr x2 4)) 252645135)))]) (st2 := []) (by simp only [yl_lit, yL_lit, yw_add, yw_sub, yw_mul, yw_neg, yl_add, yl_sub, yl_mul, cj_and, cj_or, cj_xor, cj_shl, cj_shr, cj_ushr, cj_div, cj_i2c, cj_i2b, cj_dc, ck_and, ck_or, ck_xor, ck_shl, ck_shr, ck_ushr, ck_i2l, ck_l2i, ck_cmp]) rfl ?_
  refine xZ.letI (v := (jand (x2 + (jushr x2 4)) 252645135)) (lvf := fun x3 => [(0, .int (yw x3))]) (stf := fun x3 => []) ?_
  intro x3
  refine xZ.adv (me := xm252) hP_252 12 (pc' := 48) (lv' := [(0, .int (((yw x3) + (Int32.toUInt32 (yw x3) >>> (Int32.toUInt32 (8 : Int32) &&& Int32.toUInt32 31)).toInt32) + (Int32.toUInt32 ((yw x3) + (Int32.toUInt32 (yw x3) >>> (Int32.toUInt32 (8 : Int32) &&& Int32.toUInt32 31)).toInt32) >>> (Int32.toUInt32 (16 : Int32) &&& Int32.toUInt32 31)).toInt32))]) (st' := []) rfl ?_
  refine xZ.eqs (lv2 := [(0, .int (yw ((x3 + (jushr x3 8)) + (jushr (x3 + (jushr x3 8)) 16))))]) (st2 := []) (by simp only [yl_lit, yL_lit, yw_add, yw_sub, yw_mul, yw_neg, yl_add, yl_sub, yl_mul, cj_and, cj_or, cj_xor, cj_shl, cj_shr, cj_ushr, cj_div, cj_i2c, cj_i2b, cj_dc, ck_and, ck_or, ck_xor, ck_shl, ck_shr, ck_ushr, ck_i2l, ck_l2i, ck_cmp]) rfl ?_
  refine xZ.letI (v := ((x3 + (jushr x3 8)) + (jushr (x3 + (jushr x3 8)) 16))) (lvf := fun x4 => [(0, .int (yw x4))]) (stf := fun x4 => []) ?_
  intro x4
  refine xZ.adv (me := xm252) hP_252 3 (pc' := 52) (lv' := [(0, .int (yw x4))]) (st' := [.int ((yw x4) &&& (63 : Int32))]) rfl ?_
  refine xZ.eqs (lv2 := [(0, .int (yw x4))]) (st2 := [.int (yw (jand x4 63))]) rfl (by simp only [yl_lit, yL_lit, yw_add, yw_sub, yw_mul, yw_neg, yl_add, yl_sub, yl_mul, cj_and, cj_or, cj_xor, cj_shl, cj_shr, cj_ushr, cj_div, cj_i2c, cj_i2b, cj_dc, ck_and, ck_or, ck_xor, ck_shl, ck_shr, ck_ushr, ck_i2l, ck_l2i, ck_cmp]) ?_
  exact xZ.jreti (me := xm252) hP_252 rfl rfl
def f_Rule_dayOfSet_88 (O : Nat → Option va_E) (f : Nat) (K62 : Nat → Int → Int → Int → Int → xM → Option (Int × xM)) (v0 : Nat) (v2 : Int) (v5 : Int) (v6 : Int) (v7 : Int) (s0 : Int) (M : xM) : Option (Int × xM) :=
  (gJ O M v0 9 3).bind fun x1 =>
  xcl (f_Days_weekdayOf O f s0 M) fun x2 M1 =>
  if yw (jand (jshr x1 (jand x2 31)) 1) = yw 1 then (
    if yw v5 = yw 0 then (
      some (s0, M1)
    ) else
    K62 v0 v2 (v5 + (-1)) v6 (v7 + 1) M1
  ) else
  K62 v0 v2 v5 v6 (v7 + 1) M1
set_option maxRecDepth 20000 in
theorem k_f_Rule_dayOfSet_88 (O : Nat → Option va_E) (f d : Nat) (K62 : Nat → Int → Int → Int → Int → xM → Option (Int × xM)) (hK62 : ∀ (v0 : Nat) (v2 : Int) (v5 : Int) (v6 : Int) (v7 : Int) M, xZ oJ O (d + 1) 56 62 [(0, .ref v0), (2, .int (yw v2)), (5, .int (yw v5)), (6, .int (yw v6)), (7, .int (yw v7))] [] M (K62 v0 v2 v5 v6 v7 M)) (v0 : Nat) (v2 : Int) (v5 : Int) (v6 : Int) (v7 : Int) (s0 : Int) (M : xM) : xZ oJ O (d + 1) 56 88 [(0, .ref v0), (2, .int (yw v2)), (5, .int (yw v5)), (6, .int (yw v6)), (7, .int (yw v7))] [.int (yw s0)] M (f_Rule_dayOfSet_88 O f K62 v0 v2 v5 v6 v7 s0 M) := by
  unfold f_Rule_dayOfSet_88
  refine xZ.adv (me := xm56) hP_56 2 (pc' := 91) (lv' := [(8, .int (yw s0)), (0, .ref v0), (2, .int (yw v2)), (5, .int (yw v5)), (6, .int (yw v6)), (7, .int (yw v7))]) (st' := [.ref v0]) rfl ?_
  refine xZ.k_gJ (me := xm56) hP_56 rfl (fun x1 => ?_)
  refine xZ.adv (me := xm56) hP_56 1 (pc' := 96) (lv' := [(8, .int (yw s0)), (0, .ref v0), (2, .int (yw v2)), (5, .int (yw v5)), (6, .int (yw v6)), (7, .int (yw v7))]) (st' := [.int (yw s0), .int (yw x1)]) rfl ?_
  refine xZ.calls (κ := oJ) (av := [.int (yw s0)]) (rest := [.int (yw x1)]) (st' := fun x2 => [.int (yw x2), .int (yw x1)]) (me := xm56) hP_56 rfl rfl rfl (Nat.le_of_ble_eq_true rfl) (by decide) hP_49 (Nat.le_of_ble_eq_true rfl) (fun _ => rfl) (k_f_Days_weekdayOf O f (d + 0) s0 M) (fun x2 M1 => ?_)
  refine xZ.adv (me := xm56) hP_56 4 (pc' := 103) (lv' := [(8, .int (yw s0)), (0, .ref v0), (2, .int (yw v2)), (5, .int (yw v5)), (6, .int (yw v6)), (7, .int (yw v7))]) (st' := [.int (1 : Int32), .int (((yw x1) >>> ((yw x2) &&& 31)) &&& (1 : Int32))]) rfl ?_
  refine xZ.eqs (lv2 := [(8, .int (yw s0)), (0, .ref v0), (2, .int (yw v2)), (5, .int (yw v5)), (6, .int (yw v6)), (7, .int (yw v7))]) (st2 := [.int (yw 1), .int (yw (jand (jshr x1 (jand x2 31)) 1))]) rfl (by simp only [yl_lit, yL_lit, yw_add, yw_sub, yw_mul, yw_neg, yl_add, yl_sub, yl_mul, cj_and, cj_or, cj_xor, cj_shl, cj_shr, cj_ushr, cj_div, cj_i2c, cj_i2b, cj_dc, ck_and, ck_or, ck_xor, ck_shl, ck_shr, ck_ushr, ck_i2l, ck_l2i, ck_cmp]) ?_
  refine xZ.jc_ne (me := xm56) hP_56 rfl (fun h1 => ?_) (fun h1 => ?_)
  · skip
    refine xZ.adv (me := xm56) hP_56 1 (pc' := 108) (lv' := [(8, .int (yw s0)), (0, .ref v0), (2, .int (yw v2)), (5, .int (yw v5)), (6, .int (yw v6)), (7, .int (yw v7))]) (st' := [.int (yw v5)]) rfl ?_
    refine xZ.jf_ne (me := xm56) hP_56 rfl (fun h2 => ?_) (fun h2 => ?_)
    · skip
      refine xZ.adv (me := xm56) hP_56 1 (pc' := 113) (lv' := [(8, .int (yw s0)), (0, .ref v0), (2, .int (yw v2)), (5, .int (yw v5)), (6, .int (yw v6)), (7, .int (yw v7))]) (st' := [.int (yw s0)]) rfl ?_
      exact xZ.jreti (me := xm56) hP_56 rfl rfl
    · skip
      refine xZ.adv (me := xm56) hP_56 3 (pc' := 62) (lv' := [(7, .int ((yw v7) + (1 : Int32))), (5, .int ((yw v5) + (-1 : Int32))), (8, .int (yw s0)), (0, .ref v0), (2, .int (yw v2)), (6, .int (yw v6))]) (st' := []) rfl ?_
      refine xZ.eqs (lv2 := [(7, .int (yw (v7 + 1))), (5, .int (yw (v5 + (-1)))), (8, .int (yw s0)), (0, .ref v0), (2, .int (yw v2)), (6, .int (yw v6))]) (st2 := []) (by simp only [yl_lit, yL_lit, yw_add, yw_sub, yw_mul, yw_neg, yl_add, yl_sub, yl_mul, cj_and, cj_or, cj_xor, cj_shl, cj_shr, cj_ushr, cj_div, cj_i2c, cj_i2b, cj_dc, ck_and, ck_or, ck_xor, ck_shl, ck_shr, ck_ushr, ck_i2l, ck_l2i, ck_cmp]) rfl ?_
      exact xZ.sub (xsc (.tail _ (.tail _ (.tail _ (.head _)))) (xsc (.tail _ (.tail _ (.tail _ (.tail _ (.head _))))) (xsc (.tail _ (.head _)) (xsc (.tail _ (.tail _ (.tail _ (.tail _ (.tail _ (.head _)))))) (xsc (.head _) xsn))))) (show ([7, 5, 8, 0, 2, 6] : List Nat).Nodup from by decide) (hK62 v0 v2 (v5 + (-1)) v6 (v7 + 1) M1)
  · skip
    refine xZ.adv (me := xm56) hP_56 2 (pc' := 62) (lv' := [(7, .int ((yw v7) + (1 : Int32))), (8, .int (yw s0)), (0, .ref v0), (2, .int (yw v2)), (5, .int (yw v5)), (6, .int (yw v6))]) (st' := []) rfl ?_
    refine xZ.eqs (lv2 := [(7, .int (yw (v7 + 1))), (8, .int (yw s0)), (0, .ref v0), (2, .int (yw v2)), (5, .int (yw v5)), (6, .int (yw v6))]) (st2 := []) (by simp only [yl_lit, yL_lit, yw_add, yw_sub, yw_mul, yw_neg, yl_add, yl_sub, yl_mul, cj_and, cj_or, cj_xor, cj_shl, cj_shr, cj_ushr, cj_div, cj_i2c, cj_i2b, cj_dc, ck_and, ck_or, ck_xor, ck_shl, ck_shr, ck_ushr, ck_i2l, ck_l2i, ck_cmp]) rfl ?_
    exact xZ.sub (xsc (.tail _ (.tail _ (.head _))) (xsc (.tail _ (.tail _ (.tail _ (.head _)))) (xsc (.tail _ (.tail _ (.tail _ (.tail _ (.head _))))) (xsc (.tail _ (.tail _ (.tail _ (.tail _ (.tail _ (.head _)))))) (xsc (.head _) xsn))))) (show ([7, 8, 0, 2, 5, 6] : List Nat).Nodup from by decide) (hK62 v0 v2 v5 v6 (v7 + 1) M1)
def f_Rule_dayOfSet_62 (O : Nat → Option va_E) (f : Nat) : Nat → Nat → Int → Int → Int → Int → xM → Option (Int × xM)
  | 0, _, _, _, _, _, _ => none
  | n + 1, v0, v2, v5, v6, v7, M =>
    if yw v2 ≤ yw v7 then (
      some ((-1), M)
    ) else
    (gJ O M v0 9 4).bind fun x1 =>
    if yw x1 ≤ yw 0 then (
      f_Rule_dayOfSet_88 O f (f_Rule_dayOfSet_62 O f n) v0 v2 v5 v6 v7 (v6 - v7) M
    ) else
    f_Rule_dayOfSet_88 O f (f_Rule_dayOfSet_62 O f n) v0 v2 v5 v6 v7 (v6 + v7) M
set_option maxRecDepth 20000 in
theorem k_f_Rule_dayOfSet_62 (O : Nat → Option va_E) (f d : Nat) : ∀ (n : Nat) (v0 : Nat) (v2 : Int) (v5 : Int) (v6 : Int) (v7 : Int) (M : xM), xZ oJ O (d + 1) 56 62 [(0, .ref v0), (2, .int (yw v2)), (5, .int (yw v5)), (6, .int (yw v6)), (7, .int (yw v7))] [] M (f_Rule_dayOfSet_62 O f n v0 v2 v5 v6 v7 M) := by
  intro n
  induction n with
  | zero =>
    intro v0 v2 v5 v6 v7 M
    exact xZ.no
  | succ n ih =>
    intro v0 v2 v5 v6 v7 M
    unfold f_Rule_dayOfSet_62
    refine xZ.adv (me := xm56) hP_56 2 (pc' := 65) (lv' := [(0, .ref v0), (2, .int (yw v2)), (5, .int (yw v5)), (6, .int (yw v6)), (7, .int (yw v7))]) (st' := [.int (yw v2), .int (yw v7)]) rfl ?_
    refine xZ.jc_ge (me := xm56) hP_56 rfl (fun h1 => ?_) (fun h1 => ?_)
    · skip
      refine xZ.adv (me := xm56) hP_56 1 (pc' := 124) (lv' := [(0, .ref v0), (2, .int (yw v2)), (5, .int (yw v5)), (6, .int (yw v6)), (7, .int (yw v7))]) (st' := [.int (-1 : Int32)]) rfl ?_
      refine xZ.eqs (lv2 := [(0, .ref v0), (2, .int (yw v2)), (5, .int (yw v5)), (6, .int (yw v6)), (7, .int (yw v7))]) (st2 := [.int (yw (-1))]) rfl (by simp only [yl_lit, yL_lit, yw_add, yw_sub, yw_mul, yw_neg, yl_add, yl_sub, yl_mul, cj_and, cj_or, cj_xor, cj_shl, cj_shr, cj_ushr, cj_div, cj_i2c, cj_i2b, cj_dc, ck_and, ck_or, ck_xor, ck_shl, ck_shr, ck_ushr, ck_i2l, ck_l2i, ck_cmp]) ?_
      exact xZ.jreti (me := xm56) hP_56 rfl rfl
    · skip
      refine xZ.adv (me := xm56) hP_56 1 (pc' := 69) (lv' := [(0, .ref v0), (2, .int (yw v2)), (5, .int (yw v5)), (6, .int (yw v6)), (7, .int (yw v7))]) (st' := [.ref v0]) rfl ?_
      refine xZ.k_gJ (me := xm56) hP_56 rfl (fun x1 => ?_)
      refine xZ.jf_le (me := xm56) hP_56 rfl (fun h2 => ?_) (fun h2 => ?_)
      · skip
        refine xZ.adv (me := xm56) hP_56 3 (pc' := 88) (lv' := [(0, .ref v0), (2, .int (yw v2)), (5, .int (yw v5)), (6, .int (yw v6)), (7, .int (yw v7))]) (st' := [.int ((yw v6) - (yw v7))]) rfl ?_
        refine xZ.eqs (lv2 := [(0, .ref v0), (2, .int (yw v2)), (5, .int (yw v5)), (6, .int (yw v6)), (7, .int (yw v7))]) (st2 := [.int (yw (v6 - v7))]) rfl (by simp only [yl_lit, yL_lit, yw_add, yw_sub, yw_mul, yw_neg, yl_add, yl_sub, yl_mul, cj_and, cj_or, cj_xor, cj_shl, cj_shr, cj_ushr, cj_div, cj_i2c, cj_i2b, cj_dc, ck_and, ck_or, ck_xor, ck_shl, ck_shr, ck_ushr, ck_i2l, ck_l2i, ck_cmp]) ?_
        exact (k_f_Rule_dayOfSet_88 O f d (f_Rule_dayOfSet_62 O f n) ih v0 v2 v5 v6 v7 (v6 - v7) M)
      · skip
        refine xZ.adv (me := xm56) hP_56 4 (pc' := 88) (lv' := [(0, .ref v0), (2, .int (yw v2)), (5, .int (yw v5)), (6, .int (yw v6)), (7, .int (yw v7))]) (st' := [.int ((yw v6) + (yw v7))]) rfl ?_
        refine xZ.eqs (lv2 := [(0, .ref v0), (2, .int (yw v2)), (5, .int (yw v5)), (6, .int (yw v6)), (7, .int (yw v7))]) (st2 := [.int (yw (v6 + v7))]) rfl (by simp only [yl_lit, yL_lit, yw_add, yw_sub, yw_mul, yw_neg, yl_add, yl_sub, yl_mul, cj_and, cj_or, cj_xor, cj_shl, cj_shr, cj_ushr, cj_div, cj_i2c, cj_i2b, cj_dc, ck_and, ck_or, ck_xor, ck_shl, ck_shr, ck_ushr, ck_i2l, ck_l2i, ck_cmp]) ?_
        exact (k_f_Rule_dayOfSet_88 O f d (f_Rule_dayOfSet_62 O f n) ih v0 v2 v5 v6 v7 (v6 + v7) M)
def f_Rule_dayOfSet_51 (O : Nat → Option va_E) (f : Nat) (v0 : Nat) (v2 : Int) (v3 : Int) (v4 : Int) (v5 : Int) (s0 : Int) (M : xM) : Option (Int × xM) :=
  if yw v3 = yw 0 then none else xlet ((jdiv v4 v3)) fun x1 =>
  f_Rule_dayOfSet_62 O f f v0 v2 v5 s0 (x1 * 7) M
set_option maxRecDepth 20000 in
theorem k_f_Rule_dayOfSet_51 (O : Nat → Option va_E) (f d : Nat) (v0 : Nat) (v2 : Int) (v3 : Int) (v4 : Int) (v5 : Int) (s0 : Int) (M : xM) : xZ oJ O (d + 1) 56 51 [(0, .ref v0), (2, .int (yw v2)), (3, .int (yw v3)), (4, .int (yw v4)), (5, .int (yw v5))] [.int (yw s0)] M (f_Rule_dayOfSet_51 O f v0 v2 v3 v4 v5 s0 M) := by
  unfold f_Rule_dayOfSet_51
  refine xZ.adv (me := xm56) hP_56 3 (pc' := 56) (lv' := [(6, .int (yw s0)), (0, .ref v0), (2, .int (yw v2)), (3, .int (yw v3)), (4, .int (yw v4)), (5, .int (yw v5))]) (st' := [.int (yw v3), .int (yw v4)]) rfl ?_
  refine xZ.k_jdiv (me := xm56) hP_56 rfl (fun x1 => ?_)
  refine xZ.adv (me := xm56) hP_56 3 (pc' := 62) (lv' := [(7, .int ((yw x1) * (7 : Int32))), (6, .int (yw s0)), (0, .ref v0), (2, .int (yw v2)), (3, .int (yw v3)), (4, .int (yw v4)), (5, .int (yw v5))]) (st' := []) rfl ?_
  refine xZ.eqs (lv2 := [(7, .int (yw (x1 * 7))), (6, .int (yw s0)), (0, .ref v0), (2, .int (yw v2)), (3, .int (yw v3)), (4, .int (yw v4)), (5, .int (yw v5))]) (st2 := []) (by simp only [yl_lit, yL_lit, yw_add, yw_sub, yw_mul, yw_neg, yl_add, yl_sub, yl_mul, cj_and, cj_or, cj_xor, cj_shl, cj_shr, cj_ushr, cj_div, cj_i2c, cj_i2b, cj_dc, ck_and, ck_or, ck_xor, ck_shl, ck_shr, ck_ushr, ck_i2l, ck_l2i, ck_cmp]) rfl ?_
  exact xZ.sub (xsc (.tail _ (.tail _ (.head _))) (xsc (.tail _ (.tail _ (.tail _ (.head _)))) (xsc (.tail _ (.tail _ (.tail _ (.tail _ (.tail _ (.tail _ (.head _))))))) (xsc (.tail _ (.head _)) (xsc (.head _) xsn))))) (show ([7, 6, 0, 2, 3, 4, 5] : List Nat).Nodup from by decide) (k_f_Rule_dayOfSet_62 O f d f v0 v2 v5 s0 (x1 * 7) M)
def f_Rule_dayOfSet (O : Nat → Option va_E) (f : Nat) (v0 : Nat) (v1 : Int) (v2 : Int) (M : xM) : Option (Int × xM) :=
  (gJ O M v0 9 3).bind fun x1 =>
  xcl (f_Integer_bitCount O f (jand x1 127) M) fun x2 M1 =>
  if yw 1 ≤ yw x2 then (
    (gJ O M1 v0 9 4).bind fun x3 =>
    xcl (f_Math_abs O f x3 M1) fun x4 M2 =>
    if yw x2 = yw 0 then none else xlet ((x4 - 1) - (jdiv (x4 - 1) x2) * x2) fun x5 =>
    (gJ O M2 v0 9 4).bind fun x6 =>
    if yw x6 ≤ yw 0 then (
      f_Rule_dayOfSet_51 O f v0 v2 x2 (x4 - 1) x5 ((v1 + v2) - 1) M2
    ) else
    f_Rule_dayOfSet_51 O f v0 v2 x2 (x4 - 1) x5 v1 M2
  ) else
  some ((-1), M1)
set_option maxRecDepth 20000 in
theorem k_f_Rule_dayOfSet (O : Nat → Option va_E) (f d : Nat) (v0 : Nat) (v1 : Int) (v2 : Int) (M : xM) : xZ oJ O (d + 1) 56 0 [(0, .ref v0), (1, .int (yw v1)), (2, .int (yw v2))] [] M (f_Rule_dayOfSet O f v0 v1 v2 M) := by
  unfold f_Rule_dayOfSet
  refine xZ.adv (me := xm56) hP_56 1 (pc' := 1) (lv' := [(0, .ref v0), (1, .int (yw v1)), (2, .int (yw v2))]) (st' := [.ref v0]) rfl ?_
  refine xZ.k_gJ (me := xm56) hP_56 rfl (fun x1 => ?_)
  refine xZ.adv (me := xm56) hP_56 2 (pc' := 7) (lv' := [(0, .ref v0), (1, .int (yw v1)), (2, .int (yw v2))]) (st' := [.int ((yw x1) &&& (127 : Int32))]) rfl ?_
  refine xZ.eqs (lv2 := [(0, .ref v0), (1, .int (yw v1)), (2, .int (yw v2))]) (st2 := [.int (yw (jand x1 127))]) rfl (by simp only [yl_lit, yL_lit, yw_add, yw_sub, yw_mul, yw_neg, yl_add, yl_sub, yl_mul, cj_and, cj_or, cj_xor, cj_shl, cj_shr, cj_ushr, cj_div, cj_i2c, cj_i2b, cj_dc, ck_and, ck_or, ck_xor, ck_shl, ck_shr, ck_ushr, ck_i2l, ck_l2i, ck_cmp]) ?_
  refine xZ.calls (κ := oJ) (av := [.int (yw (jand x1 127))]) (rest := []) (st' := fun x2 => [.int (yw x2)]) (me := xm56) hP_56 rfl rfl rfl (Nat.le_of_ble_eq_true rfl) (by decide) hP_252 (Nat.le_of_ble_eq_true rfl) (fun _ => rfl) (k_f_Integer_bitCount O f (d + 0) (jand x1 127) M) (fun x2 M1 => ?_)
  refine xZ.adv (me := xm56) hP_56 3 (pc' := 13) (lv' := [(3, .int (yw x2)), (0, .ref v0), (1, .int (yw v1)), (2, .int (yw v2))]) (st' := [.int (1 : Int32), .int (yw x2)]) rfl ?_
  refine xZ.eqs (lv2 := [(3, .int (yw x2)), (0, .ref v0), (1, .int (yw v1)), (2, .int (yw v2))]) (st2 := [.int (yw 1), .int (yw x2)]) rfl (by simp only [yl_lit, yL_lit, yw_add, yw_sub, yw_mul, yw_neg, yl_add, yl_sub, yl_mul, cj_and, cj_or, cj_xor, cj_shl, cj_shr, cj_ushr, cj_div, cj_i2c, cj_i2b, cj_dc, ck_and, ck_or, ck_xor, ck_shl, ck_shr, ck_ushr, ck_i2l, ck_l2i, ck_cmp]) ?_
  refine xZ.jc_ge (me := xm56) hP_56 rfl (fun h1 => ?_) (fun h1 => ?_)
  · skip
    refine xZ.adv (me := xm56) hP_56 1 (pc' := 19) (lv' := [(3, .int (yw x2)), (0, .ref v0), (1, .int (yw v1)), (2, .int (yw v2))]) (st' := [.ref v0]) rfl ?_
    refine xZ.k_gJ (me := xm56) hP_56 rfl (fun x3 => ?_)
    refine xZ.calls (κ := oJ) (av := [.int (yw x3)]) (rest := []) (st' := fun x4 => [.int (yw x4)]) (me := xm56) hP_56 rfl rfl rfl (Nat.le_of_ble_eq_true rfl) (by decide) hP_249 (Nat.le_of_ble_eq_true rfl) (fun _ => rfl) (k_f_Math_abs O f (d + 0) x3 M1) (fun x4 M2 => ?_)
    refine xZ.adv (me := xm56) hP_56 5 (pc' := 32) (lv' := [(4, .int ((yw x4) - (1 : Int32))), (3, .int (yw x2)), (0, .ref v0), (1, .int (yw v1)), (2, .int (yw v2))]) (st' := [.int (yw x2), .int ((yw x4) - (1 : Int32))]) rfl ?_
    refine xZ.eqs (lv2 := [(4, .int (yw (x4 - 1))), (3, .int (yw x2)), (0, .ref v0), (1, .int (yw v1)), (2, .int (yw v2))]) (st2 := [.int (yw x2), .int (yw (x4 - 1))]) (by simp only [yl_lit, yL_lit, yw_add, yw_sub, yw_mul, yw_neg, yl_add, yl_sub, yl_mul, cj_and, cj_or, cj_xor, cj_shl, cj_shr, cj_ushr, cj_div, cj_i2c, cj_i2b, cj_dc, ck_and, ck_or, ck_xor, ck_shl, ck_shr, ck_ushr, ck_i2l, ck_l2i, ck_cmp]) (by simp only [yl_lit, yL_lit, yw_add, yw_sub, yw_mul, yw_neg, yl_add, yl_sub, yl_mul, cj_and, cj_or, cj_xor, cj_shl, cj_shr, cj_ushr, cj_div, cj_i2c, cj_i2b, cj_dc, ck_and, ck_or, ck_xor, ck_shl, ck_shr, ck_ushr, ck_i2l, ck_l2i, ck_cmp]) ?_
    refine xZ.k_jrem (me := xm56) hP_56 rfl (fun x5 => ?_)
    refine xZ.adv (me := xm56) hP_56 2 (pc' := 36) (lv' := [(5, .int (yw x5)), (4, .int (yw (x4 - 1))), (3, .int (yw x2)), (0, .ref v0), (1, .int (yw v1)), (2, .int (yw v2))]) (st' := [.ref v0]) rfl ?_
    refine xZ.k_gJ (me := xm56) hP_56 rfl (fun x6 => ?_)
    refine xZ.jf_le (me := xm56) hP_56 rfl (fun h2 => ?_) (fun h2 => ?_)
    · skip
      refine xZ.adv (me := xm56) hP_56 5 (pc' := 51) (lv' := [(5, .int (yw x5)), (4, .int (yw (x4 - 1))), (3, .int (yw x2)), (0, .ref v0), (1, .int (yw v1)), (2, .int (yw v2))]) (st' := [.int (((yw v1) + (yw v2)) - (1 : Int32))]) rfl ?_
      refine xZ.eqs (lv2 := [(5, .int (yw x5)), (4, .int (yw (x4 - 1))), (3, .int (yw x2)), (0, .ref v0), (1, .int (yw v1)), (2, .int (yw v2))]) (st2 := [.int (yw ((v1 + v2) - 1))]) rfl (by simp only [yl_lit, yL_lit, yw_add, yw_sub, yw_mul, yw_neg, yl_add, yl_sub, yl_mul, cj_and, cj_or, cj_xor, cj_shl, cj_shr, cj_ushr, cj_div, cj_i2c, cj_i2b, cj_dc, ck_and, ck_or, ck_xor, ck_shl, ck_shr, ck_ushr, ck_i2l, ck_l2i, ck_cmp]) ?_
      exact xZ.sub (xsc (.tail _ (.tail _ (.tail _ (.head _)))) (xsc (.tail _ (.tail _ (.tail _ (.tail _ (.tail _ (.head _)))))) (xsc (.tail _ (.tail _ (.head _))) (xsc (.tail _ (.head _)) (xsc (.head _) xsn))))) (show ([5, 4, 3, 0, 1, 2] : List Nat).Nodup from by decide) (k_f_Rule_dayOfSet_51 O f d v0 v2 x2 (x4 - 1) x5 ((v1 + v2) - 1) M2)
    · skip
      refine xZ.adv (me := xm56) hP_56 2 (pc' := 51) (lv' := [(5, .int (yw x5)), (4, .int (yw (x4 - 1))), (3, .int (yw x2)), (0, .ref v0), (1, .int (yw v1)), (2, .int (yw v2))]) (st' := [.int (yw v1)]) rfl ?_
      exact xZ.sub (xsc (.tail _ (.tail _ (.tail _ (.head _)))) (xsc (.tail _ (.tail _ (.tail _ (.tail _ (.tail _ (.head _)))))) (xsc (.tail _ (.tail _ (.head _))) (xsc (.tail _ (.head _)) (xsc (.head _) xsn))))) (show ([5, 4, 3, 0, 1, 2] : List Nat).Nodup from by decide) (k_f_Rule_dayOfSet_51 O f d v0 v2 x2 (x4 - 1) x5 v1 M2)
  · skip
    refine xZ.adv (me := xm56) hP_56 1 (pc' := 17) (lv' := [(3, .int (yw x2)), (0, .ref v0), (1, .int (yw v1)), (2, .int (yw v2))]) (st' := [.int (-1 : Int32)]) rfl ?_
    refine xZ.eqs (lv2 := [(3, .int (yw x2)), (0, .ref v0), (1, .int (yw v1)), (2, .int (yw v2))]) (st2 := [.int (yw (-1))]) rfl (by simp only [yl_lit, yL_lit, yw_add, yw_sub, yw_mul, yw_neg, yl_add, yl_sub, yl_mul, cj_and, cj_or, cj_xor, cj_shl, cj_shr, cj_ushr, cj_div, cj_i2c, cj_i2b, cj_dc, ck_and, ck_or, ck_xor, ck_shl, ck_shr, ck_ushr, ck_i2l, ck_l2i, ck_cmp]) ?_
    exact xZ.jreti (me := xm56) hP_56 rfl rfl
def f_Rule_dayInMonth_76 (O : Nat → Option va_E) (f : Nat) (v2 : Int) (v3 : Int) (v4 : Int) (M : xM) : Option (Int × xM) :=
  if yw v4 < yw 0 then (
    some ((-1), M)
  ) else
  if yw v3 ≤ yw v4 then (
    some ((-1), M)
  ) else
  some ((v2 + v4), M)
set_option maxRecDepth 20000 in
theorem k_f_Rule_dayInMonth_76 (O : Nat → Option va_E) (f d : Nat) (v2 : Int) (v3 : Int) (v4 : Int) (M : xM) : xZ oJ O (d + 2) 53 76 [(2, .int (yw v2)), (3, .int (yw v3)), (4, .int (yw v4))] [] M (f_Rule_dayInMonth_76 O f v2 v3 v4 M) := by
  unfold f_Rule_dayInMonth_76
  refine xZ.adv (me := xm53) hP_53 1 (pc' := 78) (lv' := [(2, .int (yw v2)), (3, .int (yw v3)), (4, .int (yw v4))]) (st' := [.int (yw v4)]) rfl ?_
  refine xZ.jf_lt (me := xm53) hP_53 rfl (fun h1 => ?_) (fun h1 => ?_)
  · skip
    refine xZ.adv (me := xm53) hP_53 1 (pc' := 95) (lv' := [(2, .int (yw v2)), (3, .int (yw v3)), (4, .int (yw v4))]) (st' := [.int (-1 : Int32)]) rfl ?_
    refine xZ.eqs (lv2 := [(2, .int (yw v2)), (3, .int (yw v3)), (4, .int (yw v4))]) (st2 := [.int (yw (-1))]) rfl (by simp only [yl_lit, yL_lit, yw_add, yw_sub, yw_mul, yw_neg, yl_add, yl_sub, yl_mul, cj_and, cj_or, cj_xor, cj_shl, cj_shr, cj_ushr, cj_div, cj_i2c, cj_i2b, cj_dc, ck_and, ck_or, ck_xor, ck_shl, ck_shr, ck_ushr, ck_i2l, ck_l2i, ck_cmp]) ?_
    exact xZ.jreti (me := xm53) hP_53 rfl rfl
  · skip
    refine xZ.adv (me := xm53) hP_53 2 (pc' := 84) (lv' := [(2, .int (yw v2)), (3, .int (yw v3)), (4, .int (yw v4))]) (st' := [.int (yw v3), .int (yw v4)]) rfl ?_
    refine xZ.jc_ge (me := xm53) hP_53 rfl (fun h2 => ?_) (fun h2 => ?_)
    · skip
      refine xZ.adv (me := xm53) hP_53 1 (pc' := 95) (lv' := [(2, .int (yw v2)), (3, .int (yw v3)), (4, .int (yw v4))]) (st' := [.int (-1 : Int32)]) rfl ?_
      refine xZ.eqs (lv2 := [(2, .int (yw v2)), (3, .int (yw v3)), (4, .int (yw v4))]) (st2 := [.int (yw (-1))]) rfl (by simp only [yl_lit, yL_lit, yw_add, yw_sub, yw_mul, yw_neg, yl_add, yl_sub, yl_mul, cj_and, cj_or, cj_xor, cj_shl, cj_shr, cj_ushr, cj_div, cj_i2c, cj_i2b, cj_dc, ck_and, ck_or, ck_xor, ck_shl, ck_shr, ck_ushr, ck_i2l, ck_l2i, ck_cmp]) ?_
      exact xZ.jreti (me := xm53) hP_53 rfl rfl
    · skip
      refine xZ.adv (me := xm53) hP_53 4 (pc' := 95) (lv' := [(2, .int (yw v2)), (3, .int (yw v3)), (4, .int (yw v4))]) (st' := [.int ((yw v2) + (yw v4))]) rfl ?_
      refine xZ.eqs (lv2 := [(2, .int (yw v2)), (3, .int (yw v3)), (4, .int (yw v4))]) (st2 := [.int (yw (v2 + v4))]) rfl (by simp only [yl_lit, yL_lit, yw_add, yw_sub, yw_mul, yw_neg, yl_add, yl_sub, yl_mul, cj_and, cj_or, cj_xor, cj_shl, cj_shr, cj_ushr, cj_div, cj_i2c, cj_i2b, cj_dc, ck_and, ck_or, ck_xor, ck_shl, ck_shr, ck_ushr, ck_i2l, ck_l2i, ck_cmp]) ?_
      exact xZ.jreti (me := xm53) hP_53 rfl rfl
def f_Rule_dayInMonth (O : Nat → Option va_E) (f : Nat) (v0 : Nat) (v1 : Int) (M : xM) : Option (Int × xM) :=
  xcl (f_Days_monthBegin O f v1 M) fun x1 M1 =>
  xcl (f_Days_monthLength O f v1 M1) fun x2 M2 =>
  (gJ O M2 v0 9 1).bind fun x3 =>
  if yw x3 = yw 4 then (
    (isO O M2 v0 9).bind fun _ =>
    xcl (f_Rule_dayOfSet O f v0 x1 x2 M2) fun x4 M3 =>
    some (x4, M3)
  ) else
  (gJ O M2 v0 9 4).bind fun x5 =>
  (gJ O M2 v0 9 1).bind fun x6 =>
  if yw x6 = yw 5 then (
    (gJ O M2 v0 9 0).bind fun x7 =>
    (gJ O M2 v0 9 0).bind fun x8 =>
    xcl (f_Days_monthOf O f x8 M2) fun x9 M4 =>
    xcl (f_Days_monthBegin O f x9 M4) fun x10 M5 =>
    f_Rule_dayInMonth_76 O f x1 x2 (x7 - x10) M5
  ) else
  (gJ O M2 v0 9 4).bind fun x11 =>
  if yw 0 ≤ yw x11 then (
    f_Rule_dayInMonth_76 O f x1 x2 (x5 - 1) M2
  ) else
  (gJ O M2 v0 9 4).bind fun x12 =>
  f_Rule_dayInMonth_76 O f x1 x2 (x2 + x12) M2
set_option maxRecDepth 20000 in
theorem k_f_Rule_dayInMonth (O : Nat → Option va_E) (f d : Nat) (v0 : Nat) (v1 : Int) (M : xM) : xZ oJ O (d + 2) 53 0 [(0, .ref v0), (1, .int (yw v1))] [] M (f_Rule_dayInMonth O f v0 v1 M) := by
  unfold f_Rule_dayInMonth
  refine xZ.adv (me := xm53) hP_53 1 (pc' := 1) (lv' := [(0, .ref v0), (1, .int (yw v1))]) (st' := [.int (yw v1)]) rfl ?_
  refine xZ.calls (κ := oJ) (av := [.int (yw v1)]) (rest := []) (st' := fun x1 => [.int (yw x1)]) (me := xm53) hP_53 rfl rfl rfl (Nat.le_of_ble_eq_true rfl) (by decide) hP_54 (Nat.le_of_ble_eq_true rfl) (fun _ => rfl) (k_f_Days_monthBegin O f (d + 1) v1 M) (fun x1 M1 => ?_)
  refine xZ.adv (me := xm53) hP_53 2 (pc' := 6) (lv' := [(2, .int (yw x1)), (0, .ref v0), (1, .int (yw v1))]) (st' := [.int (yw v1)]) rfl ?_
  refine xZ.calls (κ := oJ) (av := [.int (yw v1)]) (rest := []) (st' := fun x2 => [.int (yw x2)]) (me := xm53) hP_53 rfl rfl rfl (Nat.le_of_ble_eq_true rfl) (by decide) hP_55 (Nat.le_of_ble_eq_true rfl) (fun _ => rfl) (k_f_Days_monthLength O f (d + 1) v1 M1) (fun x2 M2 => ?_)
  refine xZ.adv (me := xm53) hP_53 2 (pc' := 11) (lv' := [(3, .int (yw x2)), (2, .int (yw x1)), (0, .ref v0), (1, .int (yw v1))]) (st' := [.ref v0]) rfl ?_
  refine xZ.k_gJ (me := xm53) hP_53 rfl (fun x3 => ?_)
  refine xZ.adv (me := xm53) hP_53 1 (pc' := 15) (lv' := [(3, .int (yw x2)), (2, .int (yw x1)), (0, .ref v0), (1, .int (yw v1))]) (st' := [.int (4 : Int32), .int (yw x3)]) rfl ?_
  refine xZ.eqs (lv2 := [(3, .int (yw x2)), (2, .int (yw x1)), (0, .ref v0), (1, .int (yw v1))]) (st2 := [.int (yw 4), .int (yw x3)]) rfl (by simp only [yl_lit, yL_lit, yw_add, yw_sub, yw_mul, yw_neg, yl_add, yl_sub, yl_mul, cj_and, cj_or, cj_xor, cj_shl, cj_shr, cj_ushr, cj_div, cj_i2c, cj_i2b, cj_dc, ck_and, ck_or, ck_xor, ck_shl, ck_shr, ck_ushr, ck_i2l, ck_l2i, ck_cmp]) ?_
  refine xZ.jc_ne (me := xm53) hP_53 rfl (fun h1 => ?_) (fun h1 => ?_)
  · skip
    refine xZ.adv (me := xm53) hP_53 3 (pc' := 21) (lv' := [(3, .int (yw x2)), (2, .int (yw x1)), (0, .ref v0), (1, .int (yw v1))]) (st' := [.int (yw x2), .int (yw x1), .ref v0]) rfl ?_
    refine xZ.callv (κ := oJ) (av := [.int (yw x1), .int (yw x2)]) (rest := []) (st' := fun x4 => [.int (yw x4)]) (k0 := v0) (me := xm53) hP_53 rfl (Or.inl rfl) ⟨rfl, by decide⟩ rfl rfl (Nat.le_of_ble_eq_true rfl) (by decide) hP_56 (Nat.le_of_ble_eq_true rfl) (fun _ => rfl) (k_f_Rule_dayOfSet O f (d + 0) v0 x1 x2 M2) (fun x4 M3 => ?_)
    exact xZ.jreti (me := xm53) hP_53 rfl rfl
  · skip
    refine xZ.adv (me := xm53) hP_53 1 (pc' := 26) (lv' := [(3, .int (yw x2)), (2, .int (yw x1)), (0, .ref v0), (1, .int (yw v1))]) (st' := [.ref v0]) rfl ?_
    refine xZ.k_gJ (me := xm53) hP_53 rfl (fun x5 => ?_)
    refine xZ.adv (me := xm53) hP_53 4 (pc' := 34) (lv' := [(4, .int ((yw x5) - (1 : Int32))), (3, .int (yw x2)), (2, .int (yw x1)), (0, .ref v0), (1, .int (yw v1))]) (st' := [.ref v0]) rfl ?_
    refine xZ.eqs (lv2 := [(4, .int (yw (x5 - 1))), (3, .int (yw x2)), (2, .int (yw x1)), (0, .ref v0), (1, .int (yw v1))]) (st2 := [.ref v0]) (by simp only [yl_lit, yL_lit, yw_add, yw_sub, yw_mul, yw_neg, yl_add, yl_sub, yl_mul, cj_and, cj_or, cj_xor, cj_shl, cj_shr, cj_ushr, cj_div, cj_i2c, cj_i2b, cj_dc, ck_and, ck_or, ck_xor, ck_shl, ck_shr, ck_ushr, ck_i2l, ck_l2i, ck_cmp]) rfl ?_
    refine xZ.k_gJ (me := xm53) hP_53 rfl (fun x6 => ?_)
    refine xZ.adv (me := xm53) hP_53 1 (pc' := 38) (lv' := [(4, .int (yw (x5 - 1))), (3, .int (yw x2)), (2, .int (yw x1)), (0, .ref v0), (1, .int (yw v1))]) (st' := [.int (5 : Int32), .int (yw x6)]) rfl ?_
    refine xZ.eqs (lv2 := [(4, .int (yw (x5 - 1))), (3, .int (yw x2)), (2, .int (yw x1)), (0, .ref v0), (1, .int (yw v1))]) (st2 := [.int (yw 5), .int (yw x6)]) rfl (by simp only [yl_lit, yL_lit, yw_add, yw_sub, yw_mul, yw_neg, yl_add, yl_sub, yl_mul, cj_and, cj_or, cj_xor, cj_shl, cj_shr, cj_ushr, cj_div, cj_i2c, cj_i2b, cj_dc, ck_and, ck_or, ck_xor, ck_shl, ck_shr, ck_ushr, ck_i2l, ck_l2i, ck_cmp]) ?_
    refine xZ.jc_ne (me := xm53) hP_53 rfl (fun h2 => ?_) (fun h2 => ?_)
    · skip
      refine xZ.adv (me := xm53) hP_53 1 (pc' := 42) (lv' := [(4, .int (yw (x5 - 1))), (3, .int (yw x2)), (2, .int (yw x1)), (0, .ref v0), (1, .int (yw v1))]) (st' := [.ref v0]) rfl ?_
      refine xZ.k_gJ (me := xm53) hP_53 rfl (fun x7 => ?_)
      refine xZ.adv (me := xm53) hP_53 1 (pc' := 46) (lv' := [(4, .int (yw (x5 - 1))), (3, .int (yw x2)), (2, .int (yw x1)), (0, .ref v0), (1, .int (yw v1))]) (st' := [.ref v0, .int (yw x7)]) rfl ?_
      refine xZ.k_gJ (me := xm53) hP_53 rfl (fun x8 => ?_)
      refine xZ.calls (κ := oJ) (av := [.int (yw x8)]) (rest := [.int (yw x7)]) (st' := fun x9 => [.int (yw x9), .int (yw x7)]) (me := xm53) hP_53 rfl rfl rfl (Nat.le_of_ble_eq_true rfl) (by decide) hP_52 (Nat.le_of_ble_eq_true rfl) (fun _ => rfl) (k_f_Days_monthOf O f (d + 1) x8 M2) (fun x9 M4 => ?_)
      refine xZ.calls (κ := oJ) (av := [.int (yw x9)]) (rest := [.int (yw x7)]) (st' := fun x10 => [.int (yw x10), .int (yw x7)]) (me := xm53) hP_53 rfl rfl rfl (Nat.le_of_ble_eq_true rfl) (by decide) hP_54 (Nat.le_of_ble_eq_true rfl) (fun _ => rfl) (k_f_Days_monthBegin O f (d + 1) x9 M4) (fun x10 M5 => ?_)
      refine xZ.adv (me := xm53) hP_53 3 (pc' := 76) (lv' := [(4, .int ((yw x7) - (yw x10))), (3, .int (yw x2)), (2, .int (yw x1)), (0, .ref v0), (1, .int (yw v1))]) (st' := []) rfl ?_
      refine xZ.eqs (lv2 := [(4, .int (yw (x7 - x10))), (3, .int (yw x2)), (2, .int (yw x1)), (0, .ref v0), (1, .int (yw v1))]) (st2 := []) (by simp only [yl_lit, yL_lit, yw_add, yw_sub, yw_mul, yw_neg, yl_add, yl_sub, yl_mul, cj_and, cj_or, cj_xor, cj_shl, cj_shr, cj_ushr, cj_div, cj_i2c, cj_i2b, cj_dc, ck_and, ck_or, ck_xor, ck_shl, ck_shr, ck_ushr, ck_i2l, ck_l2i, ck_cmp]) rfl ?_
      exact xZ.sub (xsc (.tail _ (.tail _ (.head _))) (xsc (.tail _ (.head _)) (xsc (.head _) xsn))) (show ([4, 3, 2, 0, 1] : List Nat).Nodup from by decide) (k_f_Rule_dayInMonth_76 O f d x1 x2 (x7 - x10) M5)
    · skip
      refine xZ.adv (me := xm53) hP_53 1 (pc' := 62) (lv' := [(4, .int (yw (x5 - 1))), (3, .int (yw x2)), (2, .int (yw x1)), (0, .ref v0), (1, .int (yw v1))]) (st' := [.ref v0]) rfl ?_
      refine xZ.k_gJ (me := xm53) hP_53 rfl (fun x11 => ?_)
      refine xZ.jf_ge (me := xm53) hP_53 rfl (fun h3 => ?_) (fun h3 => ?_)
      · skip
        exact xZ.sub (xsc (.tail _ (.tail _ (.head _))) (xsc (.tail _ (.head _)) (xsc (.head _) xsn))) (show ([4, 3, 2, 0, 1] : List Nat).Nodup from by decide) (k_f_Rule_dayInMonth_76 O f d x1 x2 (x5 - 1) M2)
      · skip
        refine xZ.adv (me := xm53) hP_53 2 (pc' := 70) (lv' := [(4, .int (yw (x5 - 1))), (3, .int (yw x2)), (2, .int (yw x1)), (0, .ref v0), (1, .int (yw v1))]) (st' := [.ref v0, .int (yw x2)]) rfl ?_
        refine xZ.k_gJ (me := xm53) hP_53 rfl (fun x12 => ?_)
        refine xZ.adv (me := xm53) hP_53 2 (pc' := 76) (lv' := [(4, .int ((yw x2) + (yw x12))), (3, .int (yw x2)), (2, .int (yw x1)), (0, .ref v0), (1, .int (yw v1))]) (st' := []) rfl ?_
        refine xZ.eqs (lv2 := [(4, .int (yw (x2 + x12))), (3, .int (yw x2)), (2, .int (yw x1)), (0, .ref v0), (1, .int (yw v1))]) (st2 := []) (by simp only [yl_lit, yL_lit, yw_add, yw_sub, yw_mul, yw_neg, yl_add, yl_sub, yl_mul, cj_and, cj_or, cj_xor, cj_shl, cj_shr, cj_ushr, cj_div, cj_i2c, cj_i2b, cj_dc, ck_and, ck_or, ck_xor, ck_shl, ck_shr, ck_ushr, ck_i2l, ck_l2i, ck_cmp]) rfl ?_
        exact xZ.sub (xsc (.tail _ (.tail _ (.head _))) (xsc (.tail _ (.head _)) (xsc (.head _) xsn))) (show ([4, 3, 2, 0, 1] : List Nat).Nodup from by decide) (k_f_Rule_dayInMonth_76 O f d x1 x2 (x2 + x12) M2)
def f_Rule_nextByMonths_47 (O : Nat → Option va_E) (f : Nat) : Nat → Nat → Int → Int → Int → Int → xM → Option (Int × xM)
  | 0, _, _, _, _, _, _ => none
  | n + 1, v0, v1, v2, v5, v6, M =>
    if yw v5 < yw v6 then (
      some ((-1), M)
    ) else
    (isO O M v0 9).bind fun _ =>
    xcl (f_Rule_dayInMonth O f v0 v6 M) fun x1 M1 =>
    if yw x1 < yw v1 then (
      f_Rule_nextByMonths_47 O f n v0 v1 v2 v5 (v6 + v2) M1
    ) else
    some (x1, M1)
set_option maxRecDepth 20000 in
theorem k_f_Rule_nextByMonths_47 (O : Nat → Option va_E) (f d : Nat) : ∀ (n : Nat) (v0 : Nat) (v1 : Int) (v2 : Int) (v5 : Int) (v6 : Int) (M : xM), xZ oJ O (d + 3) 50 47 [(0, .ref v0), (1, .int (yw v1)), (2, .int (yw v2)), (5, .int (yw v5)), (6, .int (yw v6))] [] M (f_Rule_nextByMonths_47 O f n v0 v1 v2 v5 v6 M) := by
  intro n
  induction n with
  | zero =>
    intro v0 v1 v2 v5 v6 M
    exact xZ.no
  | succ n ih =>
    intro v0 v1 v2 v5 v6 M
    unfold f_Rule_nextByMonths_47
    refine xZ.adv (me := xm50) hP_50 2 (pc' := 51) (lv' := [(0, .ref v0), (1, .int (yw v1)), (2, .int (yw v2)), (5, .int (yw v5)), (6, .int (yw v6))]) (st' := [.int (yw v5), .int (yw v6)]) rfl ?_
    refine xZ.jc_gt (me := xm50) hP_50 rfl (fun h1 => ?_) (fun h1 => ?_)
    · skip
      refine xZ.adv (me := xm50) hP_50 1 (pc' := 81) (lv' := [(0, .ref v0), (1, .int (yw v1)), (2, .int (yw v2)), (5, .int (yw v5)), (6, .int (yw v6))]) (st' := [.int (-1 : Int32)]) rfl ?_
      refine xZ.eqs (lv2 := [(0, .ref v0), (1, .int (yw v1)), (2, .int (yw v2)), (5, .int (yw v5)), (6, .int (yw v6))]) (st2 := [.int (yw (-1))]) rfl (by simp only [yl_lit, yL_lit, yw_add, yw_sub, yw_mul, yw_neg, yl_add, yl_sub, yl_mul, cj_and, cj_or, cj_xor, cj_shl, cj_shr, cj_ushr, cj_div, cj_i2c, cj_i2b, cj_dc, ck_and, ck_or, ck_xor, ck_shl, ck_shr, ck_ushr, ck_i2l, ck_l2i, ck_cmp]) ?_
      exact xZ.jreti (me := xm50) hP_50 rfl rfl
    · skip
      refine xZ.adv (me := xm50) hP_50 2 (pc' := 57) (lv' := [(0, .ref v0), (1, .int (yw v1)), (2, .int (yw v2)), (5, .int (yw v5)), (6, .int (yw v6))]) (st' := [.int (yw v6), .ref v0]) rfl ?_
      refine xZ.callv (κ := oJ) (av := [.int (yw v6)]) (rest := []) (st' := fun x1 => [.int (yw x1)]) (k0 := v0) (me := xm50) hP_50 rfl (Or.inl rfl) ⟨rfl, by decide⟩ rfl rfl (Nat.le_of_ble_eq_true rfl) (by decide) hP_53 (Nat.le_of_ble_eq_true rfl) (fun _ => rfl) (k_f_Rule_dayInMonth O f (d + 0) v0 v6 M) (fun x1 M1 => ?_)
      refine xZ.adv (me := xm50) hP_50 3 (pc' := 65) (lv' := [(7, .int (yw x1)), (0, .ref v0), (1, .int (yw v1)), (2, .int (yw v2)), (5, .int (yw v5)), (6, .int (yw v6))]) (st' := [.int (yw v1), .int (yw x1)]) rfl ?_
      refine xZ.jc_lt (me := xm50) hP_50 rfl (fun h2 => ?_) (fun h2 => ?_)
      · skip
        refine xZ.adv (me := xm50) hP_50 5 (pc' := 47) (lv' := [(6, .int ((yw v6) + (yw v2))), (7, .int (yw x1)), (0, .ref v0), (1, .int (yw v1)), (2, .int (yw v2)), (5, .int (yw v5))]) (st' := []) rfl ?_
        refine xZ.eqs (lv2 := [(6, .int (yw (v6 + v2))), (7, .int (yw x1)), (0, .ref v0), (1, .int (yw v1)), (2, .int (yw v2)), (5, .int (yw v5))]) (st2 := []) (by simp only [yl_lit, yL_lit, yw_add, yw_sub, yw_mul, yw_neg, yl_add, yl_sub, yl_mul, cj_and, cj_or, cj_xor, cj_shl, cj_shr, cj_ushr, cj_div, cj_i2c, cj_i2b, cj_dc, ck_and, ck_or, ck_xor, ck_shl, ck_shr, ck_ushr, ck_i2l, ck_l2i, ck_cmp]) rfl ?_
        exact xZ.sub (xsc (.tail _ (.tail _ (.head _))) (xsc (.tail _ (.tail _ (.tail _ (.head _)))) (xsc (.tail _ (.tail _ (.tail _ (.tail _ (.head _))))) (xsc (.tail _ (.tail _ (.tail _ (.tail _ (.tail _ (.head _)))))) (xsc (.head _) xsn))))) (show ([6, 7, 0, 1, 2, 5] : List Nat).Nodup from by decide) (ih v0 v1 v2 v5 (v6 + v2) M1)
      · skip
        refine xZ.adv (me := xm50) hP_50 1 (pc' := 70) (lv' := [(7, .int (yw x1)), (0, .ref v0), (1, .int (yw v1)), (2, .int (yw v2)), (5, .int (yw v5)), (6, .int (yw v6))]) (st' := [.int (yw x1)]) rfl ?_
        exact xZ.jreti (me := xm50) hP_50 rfl rfl
def f_Rule_nextByMonths (O : Nat → Option va_E) (f : Nat) (v0 : Nat) (v1 : Int) (M : xM) : Option (Int × xM) :=
  (isO O M v0 9).bind fun _ =>
  xcl (f_Rule_monthStep O f v0 M) fun x1 M1 =>
  xcl (f_Days_monthOf O f v1 M1) fun x2 M2 =>
  (gJ O M2 v0 9 0).bind fun x3 =>
  xcl (f_Days_monthOf O f x3 M2) fun x4 M3 =>
  (gJ O M3 v0 9 7).bind fun x5 =>
  xcl (f_Days_monthOf O f x5 M3) fun x6 M4 =>
  if yw 1 ≤ yw x1 then (
    xcl (f_Math_floorMod O f (x4 - x2) x1 M4) fun x7 M5 =>
    f_Rule_nextByMonths_47 O f f v0 v1 x1 x6 (x2 + x7) M5
  ) else
  some ((-1), M4)
set_option maxRecDepth 20000 in
theorem k_f_Rule_nextByMonths (O : Nat → Option va_E) (f d : Nat) (v0 : Nat) (v1 : Int) (M : xM) : xZ oJ O (d + 3) 50 0 [(0, .ref v0), (1, .int (yw v1))] [] M (f_Rule_nextByMonths O f v0 v1 M) := by
  unfold f_Rule_nextByMonths
  refine xZ.adv (me := xm50) hP_50 1 (pc' := 1) (lv' := [(0, .ref v0), (1, .int (yw v1))]) (st' := [.ref v0]) rfl ?_
  refine xZ.callv (κ := oJ) (av := []) (rest := []) (st' := fun x1 => [.int (yw x1)]) (k0 := v0) (me := xm50) hP_50 rfl (Or.inl rfl) ⟨rfl, by decide⟩ rfl rfl (Nat.le_of_ble_eq_true rfl) (by decide) hP_51 (Nat.le_of_ble_eq_true rfl) (fun _ => rfl) (k_f_Rule_monthStep O f (d + 1) v0 M) (fun x1 M1 => ?_)
  refine xZ.adv (me := xm50) hP_50 2 (pc' := 6) (lv' := [(2, .int (yw x1)), (0, .ref v0), (1, .int (yw v1))]) (st' := [.int (yw v1)]) rfl ?_
  refine xZ.calls (κ := oJ) (av := [.int (yw v1)]) (rest := []) (st' := fun x2 => [.int (yw x2)]) (me := xm50) hP_50 rfl rfl rfl (Nat.le_of_ble_eq_true rfl) (by decide) hP_52 (Nat.le_of_ble_eq_true rfl) (fun _ => rfl) (k_f_Days_monthOf O f (d + 2) v1 M1) (fun x2 M2 => ?_)
  refine xZ.adv (me := xm50) hP_50 2 (pc' := 11) (lv' := [(3, .int (yw x2)), (2, .int (yw x1)), (0, .ref v0), (1, .int (yw v1))]) (st' := [.ref v0]) rfl ?_
  refine xZ.k_gJ (me := xm50) hP_50 rfl (fun x3 => ?_)
  refine xZ.calls (κ := oJ) (av := [.int (yw x3)]) (rest := []) (st' := fun x4 => [.int (yw x4)]) (me := xm50) hP_50 rfl rfl rfl (Nat.le_of_ble_eq_true rfl) (by decide) hP_52 (Nat.le_of_ble_eq_true rfl) (fun _ => rfl) (k_f_Days_monthOf O f (d + 2) x3 M2) (fun x4 M3 => ?_)
  refine xZ.adv (me := xm50) hP_50 2 (pc' := 20) (lv' := [(4, .int (yw x4)), (3, .int (yw x2)), (2, .int (yw x1)), (0, .ref v0), (1, .int (yw v1))]) (st' := [.ref v0]) rfl ?_
  refine xZ.k_gJ (me := xm50) hP_50 rfl (fun x5 => ?_)
  refine xZ.calls (κ := oJ) (av := [.int (yw x5)]) (rest := []) (st' := fun x6 => [.int (yw x6)]) (me := xm50) hP_50 rfl rfl rfl (Nat.le_of_ble_eq_true rfl) (by decide) hP_52 (Nat.le_of_ble_eq_true rfl) (fun _ => rfl) (k_f_Days_monthOf O f (d + 2) x5 M3) (fun x6 M4 => ?_)
  refine xZ.adv (me := xm50) hP_50 3 (pc' := 30) (lv' := [(5, .int (yw x6)), (4, .int (yw x4)), (3, .int (yw x2)), (2, .int (yw x1)), (0, .ref v0), (1, .int (yw v1))]) (st' := [.int (1 : Int32), .int (yw x1)]) rfl ?_
  refine xZ.eqs (lv2 := [(5, .int (yw x6)), (4, .int (yw x4)), (3, .int (yw x2)), (2, .int (yw x1)), (0, .ref v0), (1, .int (yw v1))]) (st2 := [.int (yw 1), .int (yw x1)]) rfl (by simp only [yl_lit, yL_lit, yw_add, yw_sub, yw_mul, yw_neg, yl_add, yl_sub, yl_mul, cj_and, cj_or, cj_xor, cj_shl, cj_shr, cj_ushr, cj_div, cj_i2c, cj_i2b, cj_dc, ck_and, ck_or, ck_xor, ck_shl, ck_shr, ck_ushr, ck_i2l, ck_l2i, ck_cmp]) ?_
  refine xZ.jc_ge (me := xm50) hP_50 rfl (fun h1 => ?_) (fun h1 => ?_)
  · skip
    refine xZ.adv (me := xm50) hP_50 5 (pc' := 41) (lv' := [(5, .int (yw x6)), (4, .int (yw x4)), (3, .int (yw x2)), (2, .int (yw x1)), (0, .ref v0), (1, .int (yw v1))]) (st' := [.int (yw x1), .int ((yw x4) - (yw x2)), .int (yw x2)]) rfl ?_
    refine xZ.eqs (lv2 := [(5, .int (yw x6)), (4, .int (yw x4)), (3, .int (yw x2)), (2, .int (yw x1)), (0, .ref v0), (1, .int (yw v1))]) (st2 := [.int (yw x1), .int (yw (x4 - x2)), .int (yw x2)]) rfl (by simp only [yl_lit, yL_lit, yw_add, yw_sub, yw_mul, yw_neg, yl_add, yl_sub, yl_mul, cj_and, cj_or, cj_xor, cj_shl, cj_shr, cj_ushr, cj_div, cj_i2c, cj_i2b, cj_dc, ck_and, ck_or, ck_xor, ck_shl, ck_shr, ck_ushr, ck_i2l, ck_l2i, ck_cmp]) ?_
    refine xZ.calls (κ := oJ) (av := [.int (yw (x4 - x2)), .int (yw x1)]) (rest := [.int (yw x2)]) (st' := fun x7 => [.int (yw x7), .int (yw x2)]) (me := xm50) hP_50 rfl rfl rfl (Nat.le_of_ble_eq_true rfl) (by decide) hP_250 (Nat.le_of_ble_eq_true rfl) (fun _ => rfl) (k_f_Math_floorMod O f (d + 2) (x4 - x2) x1 M4) (fun x7 M5 => ?_)
    refine xZ.adv (me := xm50) hP_50 2 (pc' := 47) (lv' := [(6, .int ((yw x2) + (yw x7))), (5, .int (yw x6)), (4, .int (yw x4)), (3, .int (yw x2)), (2, .int (yw x1)), (0, .ref v0), (1, .int (yw v1))]) (st' := []) rfl ?_
    refine xZ.eqs (lv2 := [(6, .int (yw (x2 + x7))), (5, .int (yw x6)), (4, .int (yw x4)), (3, .int (yw x2)), (2, .int (yw x1)), (0, .ref v0), (1, .int (yw v1))]) (st2 := []) (by simp only [yl_lit, yL_lit, yw_add, yw_sub, yw_mul, yw_neg, yl_add, yl_sub, yl_mul, cj_and, cj_or, cj_xor, cj_shl, cj_shr, cj_ushr, cj_div, cj_i2c, cj_i2b, cj_dc, ck_and, ck_or, ck_xor, ck_shl, ck_shr, ck_ushr, ck_i2l, ck_l2i, ck_cmp]) rfl ?_
    exact xZ.sub (xsc (.tail _ (.tail _ (.tail _ (.tail _ (.tail _ (.head _)))))) (xsc (.tail _ (.tail _ (.tail _ (.tail _ (.tail _ (.tail _ (.head _))))))) (xsc (.tail _ (.tail _ (.tail _ (.tail _ (.head _))))) (xsc (.tail _ (.head _)) (xsc (.head _) xsn))))) (show ([6, 5, 4, 3, 2, 0, 1] : List Nat).Nodup from by decide) (k_f_Rule_nextByMonths_47 O f d f v0 v1 x1 x6 (x2 + x7) M5)
  · skip
    refine xZ.adv (me := xm50) hP_50 1 (pc' := 34) (lv' := [(5, .int (yw x6)), (4, .int (yw x4)), (3, .int (yw x2)), (2, .int (yw x1)), (0, .ref v0), (1, .int (yw v1))]) (st' := [.int (-1 : Int32)]) rfl ?_
    refine xZ.eqs (lv2 := [(5, .int (yw x6)), (4, .int (yw x4)), (3, .int (yw x2)), (2, .int (yw x1)), (0, .ref v0), (1, .int (yw v1))]) (st2 := [.int (yw (-1))]) rfl (by simp only [yl_lit, yL_lit, yw_add, yw_sub, yw_mul, yw_neg, yl_add, yl_sub, yl_mul, cj_and, cj_or, cj_xor, cj_shl, cj_shr, cj_ushr, cj_div, cj_i2c, cj_i2b, cj_dc, ck_and, ck_or, ck_xor, ck_shl, ck_shr, ck_ushr, ck_i2l, ck_l2i, ck_cmp]) ?_
    exact xZ.jreti (me := xm50) hP_50 rfl rfl
def f_Rule_next_104 (O : Nat → Option va_E) (f : Nat) (v0 : Nat) (v3 : Int) (M : xM) : Option (Int × xM) :=
  (gJ O M v0 9 7).bind fun x1 =>
  if yw v3 ≤ yw x1 then (
    some (v3, M)
  ) else
  some ((-1), M)
set_option maxRecDepth 20000 in
theorem k_f_Rule_next_104 (O : Nat → Option va_E) (f d : Nat) (v0 : Nat) (v3 : Int) (M : xM) : xZ oJ O (d + 4) 45 104 [(0, .ref v0), (3, .int (yw v3))] [] M (f_Rule_next_104 O f v0 v3 M) := by
  unfold f_Rule_next_104
  refine xZ.adv (me := xm45) hP_45 2 (pc' := 106) (lv' := [(0, .ref v0), (3, .int (yw v3))]) (st' := [.ref v0, .int (yw v3)]) rfl ?_
  refine xZ.k_gJ (me := xm45) hP_45 rfl (fun x1 => ?_)
  refine xZ.jc_le (me := xm45) hP_45 rfl (fun h1 => ?_) (fun h1 => ?_)
  · skip
    refine xZ.adv (me := xm45) hP_45 1 (pc' := 117) (lv' := [(0, .ref v0), (3, .int (yw v3))]) (st' := [.int (yw v3)]) rfl ?_
    exact xZ.jreti (me := xm45) hP_45 rfl rfl
  · skip
    refine xZ.adv (me := xm45) hP_45 2 (pc' := 117) (lv' := [(0, .ref v0), (3, .int (yw v3))]) (st' := [.int (-1 : Int32)]) rfl ?_
    refine xZ.eqs (lv2 := [(0, .ref v0), (3, .int (yw v3))]) (st2 := [.int (yw (-1))]) rfl (by simp only [yl_lit, yL_lit, yw_add, yw_sub, yw_mul, yw_neg, yl_add, yl_sub, yl_mul, cj_and, cj_or, cj_xor, cj_shl, cj_shr, cj_ushr, cj_div, cj_i2c, cj_i2b, cj_dc, ck_and, ck_or, ck_xor, ck_shl, ck_shr, ck_ushr, ck_i2l, ck_l2i, ck_cmp]) ?_
    exact xZ.jreti (me := xm45) hP_45 rfl rfl
def f_Rule_next_50 (O : Nat → Option va_E) (f : Nat) (v0 : Nat) (s0 : Int) (M : xM) : Option (Int × xM) :=
  f_Rule_next_104 O f v0 s0 M
set_option maxRecDepth 20000 in
theorem k_f_Rule_next_50 (O : Nat → Option va_E) (f d : Nat) (v0 : Nat) (s0 : Int) (M : xM) : xZ oJ O (d + 4) 45 50 [(0, .ref v0)] [.int (yw s0)] M (f_Rule_next_50 O f v0 s0 M) := by
  unfold f_Rule_next_50
  refine xZ.adv (me := xm45) hP_45 2 (pc' := 104) (lv' := [(3, .int (yw s0)), (0, .ref v0)]) (st' := []) rfl ?_
  exact xZ.sub (xsc (.tail _ (.head _)) (xsc (.head _) xsn)) (show ([3, 0] : List Nat).Nodup from by decide) (k_f_Rule_next_104 O f d v0 s0 M)
def f_Rule_next_34 (O : Nat → Option va_E) (f : Nat) (v0 : Nat) (v2 : Int) (M : xM) : Option (Int × xM) :=
  (gJ O M v0 9 0).bind fun x1 =>
  if yw v2 = yw x1 then (
    (gJ O M v0 9 0).bind fun x2 =>
    f_Rule_next_50 O f v0 x2 M
  ) else
  f_Rule_next_50 O f v0 (-1) M
set_option maxRecDepth 20000 in
theorem k_f_Rule_next_34 (O : Nat → Option va_E) (f d : Nat) (v0 : Nat) (v2 : Int) (M : xM) : xZ oJ O (d + 4) 45 34 [(0, .ref v0), (2, .int (yw v2))] [] M (f_Rule_next_34 O f v0 v2 M) := by
  unfold f_Rule_next_34
  refine xZ.adv (me := xm45) hP_45 2 (pc' := 36) (lv' := [(0, .ref v0), (2, .int (yw v2))]) (st' := [.ref v0, .int (yw v2)]) rfl ?_
  refine xZ.k_gJ (me := xm45) hP_45 rfl (fun x1 => ?_)
  refine xZ.jc_ne (me := xm45) hP_45 rfl (fun h1 => ?_) (fun h1 => ?_)
  · skip
    refine xZ.adv (me := xm45) hP_45 1 (pc' := 43) (lv' := [(0, .ref v0), (2, .int (yw v2))]) (st' := [.ref v0]) rfl ?_
    refine xZ.k_gJ (me := xm45) hP_45 rfl (fun x2 => ?_)
    refine xZ.adv (me := xm45) hP_45 1 (pc' := 50) (lv' := [(0, .ref v0), (2, .int (yw v2))]) (st' := [.int (yw x2)]) rfl ?_
    exact xZ.sub (xsc (.head _) xsn) (show ([0, 2] : List Nat).Nodup from by decide) (k_f_Rule_next_50 O f d v0 x2 M)
  · skip
    refine xZ.adv (me := xm45) hP_45 1 (pc' := 50) (lv' := [(0, .ref v0), (2, .int (yw v2))]) (st' := [.int (-1 : Int32)]) rfl ?_
    refine xZ.eqs (lv2 := [(0, .ref v0), (2, .int (yw v2))]) (st2 := [.int (yw (-1))]) rfl (by simp only [yl_lit, yL_lit, yw_add, yw_sub, yw_mul, yw_neg, yl_add, yl_sub, yl_mul, cj_and, cj_or, cj_xor, cj_shl, cj_shr, cj_ushr, cj_div, cj_i2c, cj_i2b, cj_dc, ck_and, ck_or, ck_xor, ck_shl, ck_shr, ck_ushr, ck_i2l, ck_l2i, ck_cmp]) ?_
    exact xZ.sub (xsc (.head _) xsn) (show ([0, 2] : List Nat).Nodup from by decide) (k_f_Rule_next_50 O f d v0 (-1) M)
def f_Rule_next (O : Nat → Option va_E) (f : Nat) (v0 : Nat) (v1 : Int) (M : xM) : Option (Int × xM) :=
  (gJ O M v0 9 0).bind fun x1 =>
  xcl (f_Math_max O f v1 x1 M) fun x2 M1 =>
  (gJ O M1 v0 9 7).bind fun x3 =>
  if yw x2 ≤ yw x3 then (
    (gJ O M1 v0 9 1).bind fun x4 =>
    if yw x4 = yw 0 then (
      f_Rule_next_34 O f v0 x2 M1
    ) else
    (gJ O M1 v0 9 2).bind fun x5 =>
    if yw 1 ≤ yw x5 then (
      (gJ O M1 v0 9 1).bind fun x6 =>
      if yw x6 = yw 1 then (
        (gJ O M1 v0 9 0).bind fun x7 =>
        (gJ O M1 v0 9 2).bind fun x8 =>
        xcl (f_Math_floorMod O f (x7 - x2) x8 M1) fun x9 M2 =>
        f_Rule_next_104 O f v0 (x2 + x9) M2
      ) else
      (gJ O M1 v0 9 1).bind fun x10 =>
      if yw x10 = yw 2 then (
        (isO O M1 v0 9).bind fun _ =>
        xcl (f_Rule_nextByWeeks O f v0 x2 M1) fun x11 M3 =>
        f_Rule_next_104 O f v0 x11 M3
      ) else
      (isO O M1 v0 9).bind fun _ =>
      xcl (f_Rule_nextByMonths O f v0 x2 M1) fun x12 M4 =>
      f_Rule_next_104 O f v0 x12 M4
    ) else
    f_Rule_next_34 O f v0 x2 M1
  ) else
  some ((-1), M1)
set_option maxRecDepth 20000 in
theorem k_f_Rule_next (O : Nat → Option va_E) (f d : Nat) (v0 : Nat) (v1 : Int) (M : xM) : xZ oJ O (d + 4) 45 0 [(0, .ref v0), (1, .int (yw v1))] [] M (f_Rule_next O f v0 v1 M) := by
  unfold f_Rule_next
  refine xZ.adv (me := xm45) hP_45 2 (pc' := 2) (lv' := [(0, .ref v0), (1, .int (yw v1))]) (st' := [.ref v0, .int (yw v1)]) rfl ?_
  refine xZ.k_gJ (me := xm45) hP_45 rfl (fun x1 => ?_)
  refine xZ.calls (κ := oJ) (av := [.int (yw v1), .int (yw x1)]) (rest := []) (st' := fun x2 => [.int (yw x2)]) (me := xm45) hP_45 rfl rfl rfl (Nat.le_of_ble_eq_true rfl) (by decide) hP_247 (Nat.le_of_ble_eq_true rfl) (fun _ => rfl) (k_f_Math_max O f (d + 3) v1 x1 M) (fun x2 M1 => ?_)
  refine xZ.adv (me := xm45) hP_45 3 (pc' := 11) (lv' := [(2, .int (yw x2)), (0, .ref v0), (1, .int (yw v1))]) (st' := [.ref v0, .int (yw x2)]) rfl ?_
  refine xZ.k_gJ (me := xm45) hP_45 rfl (fun x3 => ?_)
  refine xZ.jc_le (me := xm45) hP_45 rfl (fun h1 => ?_) (fun h1 => ?_)
  · skip
    refine xZ.adv (me := xm45) hP_45 1 (pc' := 20) (lv' := [(2, .int (yw x2)), (0, .ref v0), (1, .int (yw v1))]) (st' := [.ref v0]) rfl ?_
    refine xZ.k_gJ (me := xm45) hP_45 rfl (fun x4 => ?_)
    refine xZ.jf_eq (me := xm45) hP_45 rfl (fun h2 => ?_) (fun h2 => ?_)
    · skip
      exact xZ.sub (xsc (.tail _ (.head _)) (xsc (.head _) xsn)) (show ([2, 0, 1] : List Nat).Nodup from by decide) (k_f_Rule_next_34 O f d v0 x2 M1)
    · skip
      refine xZ.adv (me := xm45) hP_45 1 (pc' := 27) (lv' := [(2, .int (yw x2)), (0, .ref v0), (1, .int (yw v1))]) (st' := [.ref v0]) rfl ?_
      refine xZ.k_gJ (me := xm45) hP_45 rfl (fun x5 => ?_)
      refine xZ.adv (me := xm45) hP_45 1 (pc' := 31) (lv' := [(2, .int (yw x2)), (0, .ref v0), (1, .int (yw v1))]) (st' := [.int (1 : Int32), .int (yw x5)]) rfl ?_
      refine xZ.eqs (lv2 := [(2, .int (yw x2)), (0, .ref v0), (1, .int (yw v1))]) (st2 := [.int (yw 1), .int (yw x5)]) rfl (by simp only [yl_lit, yL_lit, yw_add, yw_sub, yw_mul, yw_neg, yl_add, yl_sub, yl_mul, cj_and, cj_or, cj_xor, cj_shl, cj_shr, cj_ushr, cj_div, cj_i2c, cj_i2b, cj_dc, ck_and, ck_or, ck_xor, ck_shl, ck_shr, ck_ushr, ck_i2l, ck_l2i, ck_cmp]) ?_
      refine xZ.jc_ge (me := xm45) hP_45 rfl (fun h3 => ?_) (fun h3 => ?_)
      · skip
        refine xZ.adv (me := xm45) hP_45 1 (pc' := 55) (lv' := [(2, .int (yw x2)), (0, .ref v0), (1, .int (yw v1))]) (st' := [.ref v0]) rfl ?_
        refine xZ.k_gJ (me := xm45) hP_45 rfl (fun x6 => ?_)
        refine xZ.adv (me := xm45) hP_45 1 (pc' := 59) (lv' := [(2, .int (yw x2)), (0, .ref v0), (1, .int (yw v1))]) (st' := [.int (1 : Int32), .int (yw x6)]) rfl ?_
        refine xZ.eqs (lv2 := [(2, .int (yw x2)), (0, .ref v0), (1, .int (yw v1))]) (st2 := [.int (yw 1), .int (yw x6)]) rfl (by simp only [yl_lit, yL_lit, yw_add, yw_sub, yw_mul, yw_neg, yl_add, yl_sub, yl_mul, cj_and, cj_or, cj_xor, cj_shl, cj_shr, cj_ushr, cj_div, cj_i2c, cj_i2b, cj_dc, ck_and, ck_or, ck_xor, ck_shl, ck_shr, ck_ushr, ck_i2l, ck_l2i, ck_cmp]) ?_
        refine xZ.jc_ne (me := xm45) hP_45 rfl (fun h4 => ?_) (fun h4 => ?_)
        · skip
          refine xZ.adv (me := xm45) hP_45 2 (pc' := 64) (lv' := [(2, .int (yw x2)), (0, .ref v0), (1, .int (yw v1))]) (st' := [.ref v0, .int (yw x2)]) rfl ?_
          refine xZ.k_gJ (me := xm45) hP_45 rfl (fun x7 => ?_)
          refine xZ.adv (me := xm45) hP_45 3 (pc' := 70) (lv' := [(2, .int (yw x2)), (0, .ref v0), (1, .int (yw v1))]) (st' := [.ref v0, .int ((yw x7) - (yw x2)), .int (yw x2)]) rfl ?_
          refine xZ.eqs (lv2 := [(2, .int (yw x2)), (0, .ref v0), (1, .int (yw v1))]) (st2 := [.ref v0, .int (yw (x7 - x2)), .int (yw x2)]) rfl (by simp only [yl_lit, yL_lit, yw_add, yw_sub, yw_mul, yw_neg, yl_add, yl_sub, yl_mul, cj_and, cj_or, cj_xor, cj_shl, cj_shr, cj_ushr, cj_div, cj_i2c, cj_i2b, cj_dc, ck_and, ck_or, ck_xor, ck_shl, ck_shr, ck_ushr, ck_i2l, ck_l2i, ck_cmp]) ?_
          refine xZ.k_gJ (me := xm45) hP_45 rfl (fun x8 => ?_)
          refine xZ.calls (κ := oJ) (av := [.int (yw (x7 - x2)), .int (yw x8)]) (rest := [.int (yw x2)]) (st' := fun x9 => [.int (yw x9), .int (yw x2)]) (me := xm45) hP_45 rfl rfl rfl (Nat.le_of_ble_eq_true rfl) (by decide) hP_250 (Nat.le_of_ble_eq_true rfl) (fun _ => rfl) (k_f_Math_floorMod O f (d + 3) (x7 - x2) x8 M1) (fun x9 M2 => ?_)
          refine xZ.adv (me := xm45) hP_45 3 (pc' := 104) (lv' := [(3, .int ((yw x2) + (yw x9))), (2, .int (yw x2)), (0, .ref v0), (1, .int (yw v1))]) (st' := []) rfl ?_
          refine xZ.eqs (lv2 := [(3, .int (yw (x2 + x9))), (2, .int (yw x2)), (0, .ref v0), (1, .int (yw v1))]) (st2 := []) (by simp only [yl_lit, yL_lit, yw_add, yw_sub, yw_mul, yw_neg, yl_add, yl_sub, yl_mul, cj_and, cj_or, cj_xor, cj_shl, cj_shr, cj_ushr, cj_div, cj_i2c, cj_i2b, cj_dc, ck_and, ck_or, ck_xor, ck_shl, ck_shr, ck_ushr, ck_i2l, ck_l2i, ck_cmp]) rfl ?_
          exact xZ.sub (xsc (.tail _ (.tail _ (.head _))) (xsc (.head _) xsn)) (show ([3, 2, 0, 1] : List Nat).Nodup from by decide) (k_f_Rule_next_104 O f d v0 (x2 + x9) M2)
        · skip
          refine xZ.adv (me := xm45) hP_45 1 (pc' := 82) (lv' := [(2, .int (yw x2)), (0, .ref v0), (1, .int (yw v1))]) (st' := [.ref v0]) rfl ?_
          refine xZ.k_gJ (me := xm45) hP_45 rfl (fun x10 => ?_)
          refine xZ.adv (me := xm45) hP_45 1 (pc' := 86) (lv' := [(2, .int (yw x2)), (0, .ref v0), (1, .int (yw v1))]) (st' := [.int (2 : Int32), .int (yw x10)]) rfl ?_
          refine xZ.eqs (lv2 := [(2, .int (yw x2)), (0, .ref v0), (1, .int (yw v1))]) (st2 := [.int (yw 2), .int (yw x10)]) rfl (by simp only [yl_lit, yL_lit, yw_add, yw_sub, yw_mul, yw_neg, yl_add, yl_sub, yl_mul, cj_and, cj_or, cj_xor, cj_shl, cj_shr, cj_ushr, cj_div, cj_i2c, cj_i2b, cj_dc, ck_and, ck_or, ck_xor, ck_shl, ck_shr, ck_ushr, ck_i2l, ck_l2i, ck_cmp]) ?_
          refine xZ.jc_ne (me := xm45) hP_45 rfl (fun h5 => ?_) (fun h5 => ?_)
          · skip
            refine xZ.adv (me := xm45) hP_45 2 (pc' := 91) (lv' := [(2, .int (yw x2)), (0, .ref v0), (1, .int (yw v1))]) (st' := [.int (yw x2), .ref v0]) rfl ?_
            refine xZ.callv (κ := oJ) (av := [.int (yw x2)]) (rest := []) (st' := fun x11 => [.int (yw x11)]) (k0 := v0) (me := xm45) hP_45 rfl (Or.inl rfl) ⟨rfl, by decide⟩ rfl rfl (Nat.le_of_ble_eq_true rfl) (by decide) hP_46 (Nat.le_of_ble_eq_true rfl) (fun _ => rfl) (k_f_Rule_nextByWeeks O f (d + 2) v0 x2 M1) (fun x11 M3 => ?_)
            refine xZ.adv (me := xm45) hP_45 2 (pc' := 104) (lv' := [(3, .int (yw x11)), (2, .int (yw x2)), (0, .ref v0), (1, .int (yw v1))]) (st' := []) rfl ?_
            exact xZ.sub (xsc (.tail _ (.tail _ (.head _))) (xsc (.head _) xsn)) (show ([3, 2, 0, 1] : List Nat).Nodup from by decide) (k_f_Rule_next_104 O f d v0 x11 M3)
          · skip
            refine xZ.adv (me := xm45) hP_45 2 (pc' := 100) (lv' := [(2, .int (yw x2)), (0, .ref v0), (1, .int (yw v1))]) (st' := [.int (yw x2), .ref v0]) rfl ?_
            refine xZ.callv (κ := oJ) (av := [.int (yw x2)]) (rest := []) (st' := fun x12 => [.int (yw x12)]) (k0 := v0) (me := xm45) hP_45 rfl (Or.inl rfl) ⟨rfl, by decide⟩ rfl rfl (Nat.le_of_ble_eq_true rfl) (by decide) hP_50 (Nat.le_of_ble_eq_true rfl) (fun _ => rfl) (k_f_Rule_nextByMonths O f (d + 0) v0 x2 M1) (fun x12 M4 => ?_)
            refine xZ.adv (me := xm45) hP_45 1 (pc' := 104) (lv' := [(3, .int (yw x12)), (2, .int (yw x2)), (0, .ref v0), (1, .int (yw v1))]) (st' := []) rfl ?_
            exact xZ.sub (xsc (.tail _ (.tail _ (.head _))) (xsc (.head _) xsn)) (show ([3, 2, 0, 1] : List Nat).Nodup from by decide) (k_f_Rule_next_104 O f d v0 x12 M4)
      · skip
        exact xZ.sub (xsc (.tail _ (.head _)) (xsc (.head _) xsn)) (show ([2, 0, 1] : List Nat).Nodup from by decide) (k_f_Rule_next_34 O f d v0 x2 M1)
  · skip
    refine xZ.adv (me := xm45) hP_45 1 (pc' := 18) (lv' := [(2, .int (yw x2)), (0, .ref v0), (1, .int (yw v1))]) (st' := [.int (-1 : Int32)]) rfl ?_
    refine xZ.eqs (lv2 := [(2, .int (yw x2)), (0, .ref v0), (1, .int (yw v1))]) (st2 := [.int (yw (-1))]) rfl (by simp only [yl_lit, yL_lit, yw_add, yw_sub, yw_mul, yw_neg, yl_add, yl_sub, yl_mul, cj_and, cj_or, cj_xor, cj_shl, cj_shr, cj_ushr, cj_div, cj_i2c, cj_i2b, cj_dc, ck_and, ck_or, ck_xor, ck_shl, ck_shr, ck_ushr, ck_i2l, ck_l2i, ck_cmp]) ?_
    exact xZ.jreti (me := xm45) hP_45 rfl rfl
def f_Rule_dayByPlace_11 (O : Nat → Option va_E) (f : Nat) : Nat → Nat → Int → Int → Int → xM → Option (Int × xM)
  | 0, _, _, _, _, _ => none
  | n + 1, v0, v1, v2, v3, M =>
    if yw v1 ≤ yw v3 then (
      some (v2, M)
    ) else
    if yw v2 = yw (-1) then (
      some (v2, M)
    ) else
    (isO O M v0 9).bind fun _ =>
    xcl (f_Rule_next O f v0 (v2 + 1) M) fun x1 M1 =>
    f_Rule_dayByPlace_11 O f n v0 v1 x1 (v3 + 1) M1
set_option maxRecDepth 20000 in
theorem k_f_Rule_dayByPlace_11 (O : Nat → Option va_E) (f d : Nat) : ∀ (n : Nat) (v0 : Nat) (v1 : Int) (v2 : Int) (v3 : Int) (M : xM), xZ oJ O (d + 5) 44 11 [(0, .ref v0), (1, .int (yw v1)), (2, .int (yw v2)), (3, .int (yw v3))] [] M (f_Rule_dayByPlace_11 O f n v0 v1 v2 v3 M) := by
  intro n
  induction n with
  | zero =>
    intro v0 v1 v2 v3 M
    exact xZ.no
  | succ n ih =>
    intro v0 v1 v2 v3 M
    unfold f_Rule_dayByPlace_11
    refine xZ.adv (me := xm44) hP_44 2 (pc' := 13) (lv' := [(0, .ref v0), (1, .int (yw v1)), (2, .int (yw v2)), (3, .int (yw v3))]) (st' := [.int (yw v1), .int (yw v3)]) rfl ?_
    refine xZ.jc_ge (me := xm44) hP_44 rfl (fun h1 => ?_) (fun h1 => ?_)
    · skip
      refine xZ.adv (me := xm44) hP_44 1 (pc' := 36) (lv' := [(0, .ref v0), (1, .int (yw v1)), (2, .int (yw v2)), (3, .int (yw v3))]) (st' := [.int (yw v2)]) rfl ?_
      exact xZ.jreti (me := xm44) hP_44 rfl rfl
    · skip
      refine xZ.adv (me := xm44) hP_44 2 (pc' := 18) (lv' := [(0, .ref v0), (1, .int (yw v1)), (2, .int (yw v2)), (3, .int (yw v3))]) (st' := [.int (-1 : Int32), .int (yw v2)]) rfl ?_
      refine xZ.eqs (lv2 := [(0, .ref v0), (1, .int (yw v1)), (2, .int (yw v2)), (3, .int (yw v3))]) (st2 := [.int (yw (-1)), .int (yw v2)]) rfl (by simp only [yl_lit, yL_lit, yw_add, yw_sub, yw_mul, yw_neg, yl_add, yl_sub, yl_mul, cj_and, cj_or, cj_xor, cj_shl, cj_shr, cj_ushr, cj_div, cj_i2c, cj_i2b, cj_dc, ck_and, ck_or, ck_xor, ck_shl, ck_shr, ck_ushr, ck_i2l, ck_l2i, ck_cmp]) ?_
      refine xZ.jc_eq (me := xm44) hP_44 rfl (fun h2 => ?_) (fun h2 => ?_)
      · skip
        refine xZ.adv (me := xm44) hP_44 1 (pc' := 36) (lv' := [(0, .ref v0), (1, .int (yw v1)), (2, .int (yw v2)), (3, .int (yw v3))]) (st' := [.int (yw v2)]) rfl ?_
        exact xZ.jreti (me := xm44) hP_44 rfl rfl
      · skip
        refine xZ.adv (me := xm44) hP_44 4 (pc' := 25) (lv' := [(0, .ref v0), (1, .int (yw v1)), (2, .int (yw v2)), (3, .int (yw v3))]) (st' := [.int ((yw v2) + (1 : Int32)), .ref v0]) rfl ?_
        refine xZ.eqs (lv2 := [(0, .ref v0), (1, .int (yw v1)), (2, .int (yw v2)), (3, .int (yw v3))]) (st2 := [.int (yw (v2 + 1)), .ref v0]) rfl (by simp only [yl_lit, yL_lit, yw_add, yw_sub, yw_mul, yw_neg, yl_add, yl_sub, yl_mul, cj_and, cj_or, cj_xor, cj_shl, cj_shr, cj_ushr, cj_div, cj_i2c, cj_i2b, cj_dc, ck_and, ck_or, ck_xor, ck_shl, ck_shr, ck_ushr, ck_i2l, ck_l2i, ck_cmp]) ?_
        refine xZ.callv (κ := oJ) (av := [.int (yw (v2 + 1))]) (rest := []) (st' := fun x1 => [.int (yw x1)]) (k0 := v0) (me := xm44) hP_44 rfl (Or.inl rfl) ⟨rfl, by decide⟩ rfl rfl (Nat.le_of_ble_eq_true rfl) (by decide) hP_45 (Nat.le_of_ble_eq_true rfl) (fun _ => rfl) (k_f_Rule_next O f (d + 0) v0 (v2 + 1) M) (fun x1 M1 => ?_)
        refine xZ.adv (me := xm44) hP_44 3 (pc' := 11) (lv' := [(3, .int ((yw v3) + (1 : Int32))), (2, .int (yw x1)), (0, .ref v0), (1, .int (yw v1))]) (st' := []) rfl ?_
        refine xZ.eqs (lv2 := [(3, .int (yw (v3 + 1))), (2, .int (yw x1)), (0, .ref v0), (1, .int (yw v1))]) (st2 := []) (by simp only [yl_lit, yL_lit, yw_add, yw_sub, yw_mul, yw_neg, yl_add, yl_sub, yl_mul, cj_and, cj_or, cj_xor, cj_shl, cj_shr, cj_ushr, cj_div, cj_i2c, cj_i2b, cj_dc, ck_and, ck_or, ck_xor, ck_shl, ck_shr, ck_ushr, ck_i2l, ck_l2i, ck_cmp]) rfl ?_
        exact xZ.sub (xsc (.tail _ (.tail _ (.head _))) (xsc (.tail _ (.tail _ (.tail _ (.head _)))) (xsc (.tail _ (.head _)) (xsc (.head _) xsn)))) (show ([3, 2, 0, 1] : List Nat).Nodup from by decide) (ih v0 v1 x1 (v3 + 1) M1)
def f_Rule_dayByPlace (O : Nat → Option va_E) (f : Nat) (v0 : Nat) (v1 : Int) (M : xM) : Option (Int × xM) :=
  (gJ O M v0 9 0).bind fun x1 =>
  (isO O M v0 9).bind fun _ =>
  xcl (f_Rule_next O f v0 x1 M) fun x2 M1 =>
  f_Rule_dayByPlace_11 O f f v0 v1 x2 0 M1
set_option maxRecDepth 20000 in
theorem k_f_Rule_dayByPlace (O : Nat → Option va_E) (f d : Nat) (v0 : Nat) (v1 : Int) (M : xM) : xZ oJ O (d + 5) 44 0 [(0, .ref v0), (1, .int (yw v1))] [] M (f_Rule_dayByPlace O f v0 v1 M) := by
  unfold f_Rule_dayByPlace
  refine xZ.adv (me := xm44) hP_44 2 (pc' := 2) (lv' := [(0, .ref v0), (1, .int (yw v1))]) (st' := [.ref v0, .ref v0]) rfl ?_
  refine xZ.k_gJ (me := xm44) hP_44 rfl (fun x1 => ?_)
  refine xZ.callv (κ := oJ) (av := [.int (yw x1)]) (rest := []) (st' := fun x2 => [.int (yw x2)]) (k0 := v0) (me := xm44) hP_44 rfl (Or.inl rfl) ⟨rfl, by decide⟩ rfl rfl (Nat.le_of_ble_eq_true rfl) (by decide) hP_45 (Nat.le_of_ble_eq_true rfl) (fun _ => rfl) (k_f_Rule_next O f (d + 0) v0 x1 M) (fun x2 M1 => ?_)
  refine xZ.adv (me := xm44) hP_44 3 (pc' := 11) (lv' := [(3, .int (0 : Int32)), (2, .int (yw x2)), (0, .ref v0), (1, .int (yw v1))]) (st' := []) rfl ?_
  refine xZ.eqs (lv2 := [(3, .int (yw 0)), (2, .int (yw x2)), (0, .ref v0), (1, .int (yw v1))]) (st2 := []) (by simp only [yl_lit, yL_lit, yw_add, yw_sub, yw_mul, yw_neg, yl_add, yl_sub, yl_mul, cj_and, cj_or, cj_xor, cj_shl, cj_shr, cj_ushr, cj_div, cj_i2c, cj_i2b, cj_dc, ck_and, ck_or, ck_xor, ck_shl, ck_shr, ck_ushr, ck_i2l, ck_l2i, ck_cmp]) rfl ?_
  exact xZ.sub (xsc (.tail _ (.tail _ (.head _))) (xsc (.tail _ (.tail _ (.tail _ (.head _)))) (xsc (.tail _ (.head _)) (xsc (.head _) xsn)))) (show ([3, 2, 0, 1] : List Nat).Nodup from by decide) (k_f_Rule_dayByPlace_11 O f d f v0 v1 x2 0 M1)
def f_Rule_settle_18 (O : Nat → Option va_E) (f : Nat) (v0 : Nat) (s0 : Nat) (s1 : Int) (M : xM) : Option (Unit × xM) :=
  (pJ M s0 9 7 s1).bind fun M1 =>
  (gJ O M1 v0 9 5).bind fun x1 =>
  if yw x1 = yw 1 then (
    (gJ O M1 v0 9 6).bind fun x2 =>
    (isO O M1 v0 9).bind fun _ =>
    xcl (f_Rule_dayByPlace O f v0 (x2 - 1) M1) fun x3 M2 =>
    if yw x3 = yw (-1) then (
      some ((), M2)
    ) else
    (pJ M2 v0 9 7 x3).bind fun M3 =>
    some ((), M3)
  ) else
  some ((), M1)
set_option maxRecDepth 20000 in
theorem k_f_Rule_settle_18 (O : Nat → Option va_E) (f d : Nat) (v0 : Nat) (s0 : Nat) (s1 : Int) (M : xM) : xZ oU O (d + 6) 43 18 [(0, .ref v0)] [.int (yw s1), .ref s0] M (f_Rule_settle_18 O f v0 s0 s1 M) := by
  unfold f_Rule_settle_18
  refine xZ.k_pJ (me := xm43) hP_43 rfl (fun M1 => ?_)
  refine xZ.adv (me := xm43) hP_43 1 (pc' := 22) (lv' := [(0, .ref v0)]) (st' := [.ref v0]) rfl ?_
  refine xZ.k_gJ (me := xm43) hP_43 rfl (fun x1 => ?_)
  refine xZ.adv (me := xm43) hP_43 1 (pc' := 26) (lv' := [(0, .ref v0)]) (st' := [.int (1 : Int32), .int (yw x1)]) rfl ?_
  refine xZ.eqs (lv2 := [(0, .ref v0)]) (st2 := [.int (yw 1), .int (yw x1)]) rfl (by simp only [yl_lit, yL_lit, yw_add, yw_sub, yw_mul, yw_neg, yl_add, yl_sub, yl_mul, cj_and, cj_or, cj_xor, cj_shl, cj_shr, cj_ushr, cj_div, cj_i2c, cj_i2b, cj_dc, ck_and, ck_or, ck_xor, ck_shl, ck_shr, ck_ushr, ck_i2l, ck_l2i, ck_cmp]) ?_
  refine xZ.jc_eq (me := xm43) hP_43 rfl (fun h1 => ?_) (fun h1 => ?_)
  · skip
    refine xZ.adv (me := xm43) hP_43 2 (pc' := 32) (lv' := [(0, .ref v0)]) (st' := [.ref v0, .ref v0]) rfl ?_
    refine xZ.k_gJ (me := xm43) hP_43 rfl (fun x2 => ?_)
    refine xZ.adv (me := xm43) hP_43 2 (pc' := 37) (lv' := [(0, .ref v0)]) (st' := [.int ((yw x2) - (1 : Int32)), .ref v0]) rfl ?_
    refine xZ.eqs (lv2 := [(0, .ref v0)]) (st2 := [.int (yw (x2 - 1)), .ref v0]) rfl (by simp only [yl_lit, yL_lit, yw_add, yw_sub, yw_mul, yw_neg, yl_add, yl_sub, yl_mul, cj_and, cj_or, cj_xor, cj_shl, cj_shr, cj_ushr, cj_div, cj_i2c, cj_i2b, cj_dc, ck_and, ck_or, ck_xor, ck_shl, ck_shr, ck_ushr, ck_i2l, ck_l2i, ck_cmp]) ?_
    refine xZ.callv (κ := oJ) (av := [.int (yw (x2 - 1))]) (rest := []) (st' := fun x3 => [.int (yw x3)]) (k0 := v0) (me := xm43) hP_43 rfl (Or.inl rfl) ⟨rfl, by decide⟩ rfl rfl (Nat.le_of_ble_eq_true rfl) (by decide) hP_44 (Nat.le_of_ble_eq_true rfl) (fun _ => rfl) (k_f_Rule_dayByPlace O f (d + 0) v0 (x2 - 1) M1) (fun x3 M2 => ?_)
    refine xZ.adv (me := xm43) hP_43 3 (pc' := 43) (lv' := [(1, .int (yw x3)), (0, .ref v0)]) (st' := [.int (-1 : Int32), .int (yw x3)]) rfl ?_
    refine xZ.eqs (lv2 := [(1, .int (yw x3)), (0, .ref v0)]) (st2 := [.int (yw (-1)), .int (yw x3)]) rfl (by simp only [yl_lit, yL_lit, yw_add, yw_sub, yw_mul, yw_neg, yl_add, yl_sub, yl_mul, cj_and, cj_or, cj_xor, cj_shl, cj_shr, cj_ushr, cj_div, cj_i2c, cj_i2b, cj_dc, ck_and, ck_or, ck_xor, ck_shl, ck_shr, ck_ushr, ck_i2l, ck_l2i, ck_cmp]) ?_
    refine xZ.jc_eq (me := xm43) hP_43 rfl (fun h2 => ?_) (fun h2 => ?_)
    · skip
      exact xZ.retu (me := xm43) hP_43 rfl rfl
    · skip
      refine xZ.adv (me := xm43) hP_43 2 (pc' := 48) (lv' := [(1, .int (yw x3)), (0, .ref v0)]) (st' := [.int (yw x3), .ref v0]) rfl ?_
      refine xZ.k_pJ (me := xm43) hP_43 rfl (fun M3 => ?_)
      exact xZ.retu (me := xm43) hP_43 rfl rfl
  · skip
    exact xZ.retu (me := xm43) hP_43 rfl rfl
def f_Rule_settle (O : Nat → Option va_E) (f : Nat) (v0 : Nat) (M : xM) : Option (Unit × xM) :=
  (gJ O M v0 9 5).bind fun x1 =>
  if yw x1 = yw 2 then (
    (gJ O M v0 9 6).bind fun x2 =>
    f_Rule_settle_18 O f v0 v0 x2 M
  ) else
  f_Rule_settle_18 O f v0 v0 146000 M
set_option maxRecDepth 20000 in
theorem k_f_Rule_settle (O : Nat → Option va_E) (f d : Nat) (v0 : Nat) (M : xM) : xZ oU O (d + 6) 43 0 [(0, .ref v0)] [] M (f_Rule_settle O f v0 M) := by
  unfold f_Rule_settle
  refine xZ.adv (me := xm43) hP_43 2 (pc' := 2) (lv' := [(0, .ref v0)]) (st' := [.ref v0, .ref v0]) rfl ?_
  refine xZ.k_gJ (me := xm43) hP_43 rfl (fun x1 => ?_)
  refine xZ.adv (me := xm43) hP_43 1 (pc' := 6) (lv' := [(0, .ref v0)]) (st' := [.int (2 : Int32), .int (yw x1), .ref v0]) rfl ?_
  refine xZ.eqs (lv2 := [(0, .ref v0)]) (st2 := [.int (yw 2), .int (yw x1), .ref v0]) rfl (by simp only [yl_lit, yL_lit, yw_add, yw_sub, yw_mul, yw_neg, yl_add, yl_sub, yl_mul, cj_and, cj_or, cj_xor, cj_shl, cj_shr, cj_ushr, cj_div, cj_i2c, cj_i2b, cj_dc, ck_and, ck_or, ck_xor, ck_shl, ck_shr, ck_ushr, ck_i2l, ck_l2i, ck_cmp]) ?_
  refine xZ.jc_ne (me := xm43) hP_43 rfl (fun h1 => ?_) (fun h1 => ?_)
  · skip
    refine xZ.adv (me := xm43) hP_43 1 (pc' := 10) (lv' := [(0, .ref v0)]) (st' := [.ref v0, .ref v0]) rfl ?_
    refine xZ.k_gJ (me := xm43) hP_43 rfl (fun x2 => ?_)
    refine xZ.adv (me := xm43) hP_43 1 (pc' := 18) (lv' := [(0, .ref v0)]) (st' := [.int (yw x2), .ref v0]) rfl ?_
    exact (k_f_Rule_settle_18 O f d v0 v0 x2 M)
  · skip
    refine xZ.adv (me := xm43) hP_43 1 (pc' := 18) (lv' := [(0, .ref v0)]) (st' := [.int (146000 : Int32), .ref v0]) rfl ?_
    refine xZ.eqs (lv2 := [(0, .ref v0)]) (st2 := [.int (yw 146000), .ref v0]) rfl (by simp only [yl_lit, yL_lit, yw_add, yw_sub, yw_mul, yw_neg, yl_add, yl_sub, yl_mul, cj_and, cj_or, cj_xor, cj_shl, cj_shr, cj_ushr, cj_div, cj_i2c, cj_i2b, cj_dc, ck_and, ck_or, ck_xor, ck_shl, ck_shr, ck_ushr, ck_i2l, ck_l2i, ck_cmp]) ?_
    exact (k_f_Rule_settle_18 O f d v0 v0 146000 M)
def f_Calendarhall_addSeries (O : Nat → Option va_E) (f : Nat) (v0 : Nat) (v1 : Int) (v2 : Int) (v3 : Int) (v4 : Int) (v5 : Int) (v6 : Int) (M : xM) : Option (Int × xM) :=
  (isO O M v0 12).bind fun _ =>
  xcl (f_Calendarhall_zoneNumbered O f v0 v1 M) fun x1 M1 =>
  xcl (f_Calendarhall_needDay O f v2 M1) fun _ M2 =>
  xcl (f_Calendarhall_needRange O f v3 0 1439 M2) fun _ M3 =>
  xcl (f_Calendarhall_needRange O f v4 1 600 M3) fun _ M4 =>
  xcl (f_Calendarhall_needRange O f v5 0 255 M4) fun _ M5 =>
  (gR O M5 v0 12 0).bind fun x6 =>
  (isO O M5 x6 4).bind fun _ =>
  xcl (f_Hall_freeSeries O f x6 M5) fun x7 M6 =>
  if yw x7 = yw (-1) then (
    none
  ) else
  (isO O M6 v0 12).bind fun _ =>
  xcl (f_Calendarhall_saveForUndo O f v0 M6) fun _ M7 =>
  (gR O M7 v0 12 0).bind fun x9 =>
  (isO O M7 x9 4).bind fun _ =>
  xcl (f_Hall_anySeries O f x9 x7 M7) fun x10 M8 =>
  (isO O M8 x10 10).bind fun _ =>
  xcl (f_Series_start O f x10 v1 v2 M8) fun _ M9 =>
  (gR O M9 x10 10 6).bind fun x12 =>
  (isO O M9 x12 9).bind fun _ =>
  xcl (f_Rule_settle O f x12 M9) fun _ M10 =>
  (pJ M10 x10 10 2 v3).bind fun M11 =>
  (pJ M11 x10 10 3 v4).bind fun M12 =>
  (pJ M12 x10 10 4 v5).bind fun M13 =>
  (pJ M13 x10 10 5 v6).bind fun M14 =>
  some (x7, M14)
set_option maxRecDepth 20000 in
theorem k_f_Calendarhall_addSeries (O : Nat → Option va_E) (f d : Nat) (v0 : Nat) (v1 : Int) (v2 : Int) (v3 : Int) (v4 : Int) (v5 : Int) (v6 : Int) (M : xM) : xZ oJ O (d + 7) 36 0 [(0, .ref v0), (1, .int (yw v1)), (2, .int (yw v2)), (3, .int (yw v3)), (4, .int (yw v4)), (5, .int (yw v5)), (6, .int (yw v6))] [] M (f_Calendarhall_addSeries O f v0 v1 v2 v3 v4 v5 v6 M) := by
  unfold f_Calendarhall_addSeries
  refine xZ.adv (me := xm36) hP_36 2 (pc' := 2) (lv' := [(0, .ref v0), (1, .int (yw v1)), (2, .int (yw v2)), (3, .int (yw v3)), (4, .int (yw v4)), (5, .int (yw v5)), (6, .int (yw v6))]) (st' := [.int (yw v1), .ref v0]) rfl ?_
  refine xZ.callv (κ := oR) (av := [.int (yw v1)]) (rest := []) (st' := fun x1 => [.ref x1]) (k0 := v0) (me := xm36) hP_36 rfl (Or.inl rfl) ⟨rfl, by decide⟩ rfl rfl (Nat.le_of_ble_eq_true rfl) (by decide) hP_20 (Nat.le_of_ble_eq_true rfl) (fun _ => rfl) (k_f_Calendarhall_zoneNumbered O f (d + 5) v0 v1 M) (fun x1 M1 => ?_)
  refine xZ.adv (me := xm36) hP_36 2 (pc' := 7) (lv' := [(0, .ref v0), (1, .int (yw v1)), (2, .int (yw v2)), (3, .int (yw v3)), (4, .int (yw v4)), (5, .int (yw v5)), (6, .int (yw v6))]) (st' := [.int (yw v2)]) rfl ?_
  refine xZ.calls (κ := oU) (av := [.int (yw v2)]) (rest := []) (st' := fun _ => []) (me := xm36) hP_36 rfl rfl rfl (Nat.le_of_ble_eq_true rfl) (by decide) hP_37 (Nat.le_of_ble_eq_true rfl) (fun _ => rfl) (k_f_Calendarhall_needDay O f (d + 6) v2 M1) (fun _ M2 => ?_)
  refine xZ.adv (me := xm36) hP_36 3 (pc' := 15) (lv' := [(0, .ref v0), (1, .int (yw v1)), (2, .int (yw v2)), (3, .int (yw v3)), (4, .int (yw v4)), (5, .int (yw v5)), (6, .int (yw v6))]) (st' := [.int (1439 : Int32), .int (0 : Int32), .int (yw v3)]) rfl ?_
  refine xZ.eqs (lv2 := [(0, .ref v0), (1, .int (yw v1)), (2, .int (yw v2)), (3, .int (yw v3)), (4, .int (yw v4)), (5, .int (yw v5)), (6, .int (yw v6))]) (st2 := [.int (yw 1439), .int (yw 0), .int (yw v3)]) rfl (by simp only [yl_lit, yL_lit, yw_add, yw_sub, yw_mul, yw_neg, yl_add, yl_sub, yl_mul, cj_and, cj_or, cj_xor, cj_shl, cj_shr, cj_ushr, cj_div, cj_i2c, cj_i2b, cj_dc, ck_and, ck_or, ck_xor, ck_shl, ck_shr, ck_ushr, ck_i2l, ck_l2i, ck_cmp]) ?_
  refine xZ.calls (κ := oU) (av := [.int (yw v3), .int (yw 0), .int (yw 1439)]) (rest := []) (st' := fun _ => []) (me := xm36) hP_36 rfl rfl rfl (Nat.le_of_ble_eq_true rfl) (by decide) hP_22 (Nat.le_of_ble_eq_true rfl) (fun _ => rfl) (k_f_Calendarhall_needRange O f (d + 6) v3 0 1439 M2) (fun _ M3 => ?_)
  refine xZ.adv (me := xm36) hP_36 3 (pc' := 24) (lv' := [(0, .ref v0), (1, .int (yw v1)), (2, .int (yw v2)), (3, .int (yw v3)), (4, .int (yw v4)), (5, .int (yw v5)), (6, .int (yw v6))]) (st' := [.int (600 : Int32), .int (1 : Int32), .int (yw v4)]) rfl ?_
  refine xZ.eqs (lv2 := [(0, .ref v0), (1, .int (yw v1)), (2, .int (yw v2)), (3, .int (yw v3)), (4, .int (yw v4)), (5, .int (yw v5)), (6, .int (yw v6))]) (st2 := [.int (yw 600), .int (yw 1), .int (yw v4)]) rfl (by simp only [yl_lit, yL_lit, yw_add, yw_sub, yw_mul, yw_neg, yl_add, yl_sub, yl_mul, cj_and, cj_or, cj_xor, cj_shl, cj_shr, cj_ushr, cj_div, cj_i2c, cj_i2b, cj_dc, ck_and, ck_or, ck_xor, ck_shl, ck_shr, ck_ushr, ck_i2l, ck_l2i, ck_cmp]) ?_
  refine xZ.calls (κ := oU) (av := [.int (yw v4), .int (yw 1), .int (yw 600)]) (rest := []) (st' := fun _ => []) (me := xm36) hP_36 rfl rfl rfl (Nat.le_of_ble_eq_true rfl) (by decide) hP_22 (Nat.le_of_ble_eq_true rfl) (fun _ => rfl) (k_f_Calendarhall_needRange O f (d + 6) v4 1 600 M3) (fun _ M4 => ?_)
  refine xZ.adv (me := xm36) hP_36 3 (pc' := 33) (lv' := [(0, .ref v0), (1, .int (yw v1)), (2, .int (yw v2)), (3, .int (yw v3)), (4, .int (yw v4)), (5, .int (yw v5)), (6, .int (yw v6))]) (st' := [.int (255 : Int32), .int (0 : Int32), .int (yw v5)]) rfl ?_
  refine xZ.eqs (lv2 := [(0, .ref v0), (1, .int (yw v1)), (2, .int (yw v2)), (3, .int (yw v3)), (4, .int (yw v4)), (5, .int (yw v5)), (6, .int (yw v6))]) (st2 := [.int (yw 255), .int (yw 0), .int (yw v5)]) rfl (by simp only [yl_lit, yL_lit, yw_add, yw_sub, yw_mul, yw_neg, yl_add, yl_sub, yl_mul, cj_and, cj_or, cj_xor, cj_shl, cj_shr, cj_ushr, cj_div, cj_i2c, cj_i2b, cj_dc, ck_and, ck_or, ck_xor, ck_shl, ck_shr, ck_ushr, ck_i2l, ck_l2i, ck_cmp]) ?_
  refine xZ.calls (κ := oU) (av := [.int (yw v5), .int (yw 0), .int (yw 255)]) (rest := []) (st' := fun _ => []) (me := xm36) hP_36 rfl rfl rfl (Nat.le_of_ble_eq_true rfl) (by decide) hP_22 (Nat.le_of_ble_eq_true rfl) (fun _ => rfl) (k_f_Calendarhall_needRange O f (d + 6) v5 0 255 M4) (fun _ M5 => ?_)
  refine xZ.adv (me := xm36) hP_36 1 (pc' := 37) (lv' := [(0, .ref v0), (1, .int (yw v1)), (2, .int (yw v2)), (3, .int (yw v3)), (4, .int (yw v4)), (5, .int (yw v5)), (6, .int (yw v6))]) (st' := [.ref v0]) rfl ?_
  refine xZ.k_gR (me := xm36) hP_36 rfl (fun x6 => ?_)
  refine xZ.callv (κ := oJ) (av := []) (rest := []) (st' := fun x7 => [.int (yw x7)]) (k0 := x6) (me := xm36) hP_36 rfl (Or.inl rfl) ⟨rfl, by decide⟩ rfl rfl (Nat.le_of_ble_eq_true rfl) (by decide) hP_38 (Nat.le_of_ble_eq_true rfl) (fun _ => rfl) (k_f_Hall_freeSeries O f (d + 6) x6 M5) (fun x7 M6 => ?_)
  refine xZ.adv (me := xm36) hP_36 3 (pc' := 48) (lv' := [(7, .int (yw x7)), (0, .ref v0), (1, .int (yw v1)), (2, .int (yw v2)), (3, .int (yw v3)), (4, .int (yw v4)), (5, .int (yw v5)), (6, .int (yw v6))]) (st' := [.int (-1 : Int32), .int (yw x7)]) rfl ?_
  refine xZ.eqs (lv2 := [(7, .int (yw x7)), (0, .ref v0), (1, .int (yw v1)), (2, .int (yw v2)), (3, .int (yw v3)), (4, .int (yw v4)), (5, .int (yw v5)), (6, .int (yw v6))]) (st2 := [.int (yw (-1)), .int (yw x7)]) rfl (by simp only [yl_lit, yL_lit, yw_add, yw_sub, yw_mul, yw_neg, yl_add, yl_sub, yl_mul, cj_and, cj_or, cj_xor, cj_shl, cj_shr, cj_ushr, cj_div, cj_i2c, cj_i2b, cj_dc, ck_and, ck_or, ck_xor, ck_shl, ck_shr, ck_ushr, ck_i2l, ck_l2i, ck_cmp]) ?_
  refine xZ.jc_ne (me := xm36) hP_36 rfl (fun h1 => ?_) (fun h1 => ?_)
  · skip
    exact xZ.no
  · skip
    refine xZ.adv (me := xm36) hP_36 1 (pc' := 60) (lv' := [(7, .int (yw x7)), (0, .ref v0), (1, .int (yw v1)), (2, .int (yw v2)), (3, .int (yw v3)), (4, .int (yw v4)), (5, .int (yw v5)), (6, .int (yw v6))]) (st' := [.ref v0]) rfl ?_
    refine xZ.callv (κ := oU) (av := []) (rest := []) (st' := fun _ => []) (k0 := v0) (me := xm36) hP_36 rfl (Or.inl rfl) ⟨rfl, by decide⟩ rfl rfl (Nat.le_of_ble_eq_true rfl) (by decide) hP_23 (Nat.le_of_ble_eq_true rfl) (fun _ => rfl) (k_f_Calendarhall_saveForUndo O f (d + 2) v0 M6) (fun _ M7 => ?_)
    refine xZ.adv (me := xm36) hP_36 1 (pc' := 64) (lv' := [(7, .int (yw x7)), (0, .ref v0), (1, .int (yw v1)), (2, .int (yw v2)), (3, .int (yw v3)), (4, .int (yw v4)), (5, .int (yw v5)), (6, .int (yw v6))]) (st' := [.ref v0]) rfl ?_
    refine xZ.k_gR (me := xm36) hP_36 rfl (fun x9 => ?_)
    refine xZ.adv (me := xm36) hP_36 1 (pc' := 69) (lv' := [(7, .int (yw x7)), (0, .ref v0), (1, .int (yw v1)), (2, .int (yw v2)), (3, .int (yw v3)), (4, .int (yw v4)), (5, .int (yw v5)), (6, .int (yw v6))]) (st' := [.int (yw x7), .ref x9]) rfl ?_
    refine xZ.callv (κ := oR) (av := [.int (yw x7)]) (rest := []) (st' := fun x10 => [.ref x10]) (k0 := x9) (me := xm36) hP_36 rfl (Or.inl rfl) ⟨rfl, by decide⟩ rfl rfl (Nat.le_of_ble_eq_true rfl) (by decide) hP_29 (Nat.le_of_ble_eq_true rfl) (fun _ => rfl) (k_f_Hall_anySeries O f (d + 6) x9 x7 M7) (fun x10 M8 => ?_)
    refine xZ.adv (me := xm36) hP_36 4 (pc' := 78) (lv' := [(8, .ref x10), (7, .int (yw x7)), (0, .ref v0), (1, .int (yw v1)), (2, .int (yw v2)), (3, .int (yw v3)), (4, .int (yw v4)), (5, .int (yw v5)), (6, .int (yw v6))]) (st' := [.int (yw v2), .int (yw v1), .ref x10]) rfl ?_
    refine xZ.callv (κ := oU) (av := [.int (yw v1), .int (yw v2)]) (rest := []) (st' := fun _ => []) (k0 := x10) (me := xm36) hP_36 rfl (Or.inl rfl) ⟨rfl, by decide⟩ rfl rfl (Nat.le_of_ble_eq_true rfl) (by decide) hP_39 (Nat.le_of_ble_eq_true rfl) (fun _ => rfl) (k_f_Series_start O f (d + 4) x10 v1 v2 M8) (fun _ M9 => ?_)
    refine xZ.adv (me := xm36) hP_36 1 (pc' := 83) (lv' := [(8, .ref x10), (7, .int (yw x7)), (0, .ref v0), (1, .int (yw v1)), (2, .int (yw v2)), (3, .int (yw v3)), (4, .int (yw v4)), (5, .int (yw v5)), (6, .int (yw v6))]) (st' := [.ref x10]) rfl ?_
    refine xZ.k_gR (me := xm36) hP_36 rfl (fun x12 => ?_)
    refine xZ.callv (κ := oU) (av := []) (rest := []) (st' := fun _ => []) (k0 := x12) (me := xm36) hP_36 rfl (Or.inl rfl) ⟨rfl, by decide⟩ rfl rfl (Nat.le_of_ble_eq_true rfl) (by decide) hP_43 (Nat.le_of_ble_eq_true rfl) (fun _ => rfl) (k_f_Rule_settle O f (d + 0) x12 M9) (fun _ M10 => ?_)
    refine xZ.adv (me := xm36) hP_36 2 (pc' := 92) (lv' := [(8, .ref x10), (7, .int (yw x7)), (0, .ref v0), (1, .int (yw v1)), (2, .int (yw v2)), (3, .int (yw v3)), (4, .int (yw v4)), (5, .int (yw v5)), (6, .int (yw v6))]) (st' := [.int (yw v3), .ref x10]) rfl ?_
    refine xZ.k_pJ (me := xm36) hP_36 rfl (fun M11 => ?_)
    refine xZ.adv (me := xm36) hP_36 2 (pc' := 99) (lv' := [(8, .ref x10), (7, .int (yw x7)), (0, .ref v0), (1, .int (yw v1)), (2, .int (yw v2)), (3, .int (yw v3)), (4, .int (yw v4)), (5, .int (yw v5)), (6, .int (yw v6))]) (st' := [.int (yw v4), .ref x10]) rfl ?_
    refine xZ.k_pJ (me := xm36) hP_36 rfl (fun M12 => ?_)
    refine xZ.adv (me := xm36) hP_36 2 (pc' := 106) (lv' := [(8, .ref x10), (7, .int (yw x7)), (0, .ref v0), (1, .int (yw v1)), (2, .int (yw v2)), (3, .int (yw v3)), (4, .int (yw v4)), (5, .int (yw v5)), (6, .int (yw v6))]) (st' := [.int (yw v5), .ref x10]) rfl ?_
    refine xZ.k_pJ (me := xm36) hP_36 rfl (fun M13 => ?_)
    refine xZ.adv (me := xm36) hP_36 2 (pc' := 113) (lv' := [(8, .ref x10), (7, .int (yw x7)), (0, .ref v0), (1, .int (yw v1)), (2, .int (yw v2)), (3, .int (yw v3)), (4, .int (yw v4)), (5, .int (yw v5)), (6, .int (yw v6))]) (st' := [.int (yw v6), .ref x10]) rfl ?_
    refine xZ.k_pJ (me := xm36) hP_36 rfl (fun M14 => ?_)
    refine xZ.adv (me := xm36) hP_36 1 (pc' := 118) (lv' := [(8, .ref x10), (7, .int (yw x7)), (0, .ref v0), (1, .int (yw v1)), (2, .int (yw v2)), (3, .int (yw v3)), (4, .int (yw v4)), (5, .int (yw v5)), (6, .int (yw v6))]) (st' := [.int (yw x7)]) rfl ?_
    exact xZ.jreti (me := xm36) hP_36 rfl rfl
def f_LRule_isRead (O : Nat → Option va_E) (f : Nat) (v0 : Nat) (M : xM) : Option (Int × xM) :=
  (gJ O M v0 16 4).bind fun x1 =>
  if yw x1 < yw (-1) then (
    some (0, M)
  ) else
  some (1, M)
set_option maxRecDepth 20000 in
theorem k_f_LRule_isRead (O : Nat → Option va_E) (f d : Nat) (v0 : Nat) (M : xM) : xZ oJ O (d + 0) 57 0 [(0, .ref v0)] [] M (f_LRule_isRead O f v0 M) := by
  unfold f_LRule_isRead
  refine xZ.adv (me := xm57) hP_57 1 (pc' := 1) (lv' := [(0, .ref v0)]) (st' := [.ref v0]) rfl ?_
  refine xZ.k_gJ (me := xm57) hP_57 rfl (fun x1 => ?_)
  refine xZ.adv (me := xm57) hP_57 1 (pc' := 5) (lv' := [(0, .ref v0)]) (st' := [.int (-1 : Int32), .int (yw x1)]) rfl ?_
  refine xZ.eqs (lv2 := [(0, .ref v0)]) (st2 := [.int (yw (-1)), .int (yw x1)]) rfl (by simp only [yl_lit, yL_lit, yw_add, yw_sub, yw_mul, yw_neg, yl_add, yl_sub, yl_mul, cj_and, cj_or, cj_xor, cj_shl, cj_shr, cj_ushr, cj_div, cj_i2c, cj_i2b, cj_dc, ck_and, ck_or, ck_xor, ck_shl, ck_shr, ck_ushr, ck_i2l, ck_l2i, ck_cmp]) ?_
  refine xZ.jc_lt (me := xm57) hP_57 rfl (fun h1 => ?_) (fun h1 => ?_)
  · skip
    refine xZ.adv (me := xm57) hP_57 1 (pc' := 13) (lv' := [(0, .ref v0)]) (st' := [.int (0 : Int32)]) rfl ?_
    refine xZ.eqs (lv2 := [(0, .ref v0)]) (st2 := [.int (yw 0)]) rfl (by simp only [yl_lit, yL_lit, yw_add, yw_sub, yw_mul, yw_neg, yl_add, yl_sub, yl_mul, cj_and, cj_or, cj_xor, cj_shl, cj_shr, cj_ushr, cj_div, cj_i2c, cj_i2b, cj_dc, ck_and, ck_or, ck_xor, ck_shl, ck_shr, ck_ushr, ck_i2l, ck_l2i, ck_cmp]) ?_
    exact xZ.jrete (me := xm57) hP_57 rfl rfl rfl
  · skip
    refine xZ.adv (me := xm57) hP_57 2 (pc' := 13) (lv' := [(0, .ref v0)]) (st' := [.int (1 : Int32)]) rfl ?_
    refine xZ.eqs (lv2 := [(0, .ref v0)]) (st2 := [.int (yw 1)]) rfl (by simp only [yl_lit, yL_lit, yw_add, yw_sub, yw_mul, yw_neg, yl_add, yl_sub, yl_mul, cj_and, cj_or, cj_xor, cj_shl, cj_shr, cj_ushr, cj_div, cj_i2c, cj_i2b, cj_dc, ck_and, ck_or, ck_xor, ck_shl, ck_shr, ck_ushr, ck_i2l, ck_l2i, ck_cmp]) ?_
    exact xZ.jrete (me := xm57) hP_57 rfl rfl rfl
def f_ArraysSupport_hugeLength (O : Nat → Option va_E) (f : Nat) (v0 : Int) (v1 : Int) (M : xM) : Option (Int × xM) :=
  if yw 0 ≤ yw (v0 + v1) then (
    if yw 2147483639 < yw (v0 + v1) then (
      some ((v0 + v1), M)
    ) else
    some (2147483639, M)
  ) else
  none
set_option maxRecDepth 20000 in
theorem k_f_ArraysSupport_hugeLength (O : Nat → Option va_E) (f d : Nat) (v0 : Int) (v1 : Int) (M : xM) : xZ oJ O (d + 0) 262 0 [(0, .int (yw v0)), (1, .int (yw v1))] [] M (f_ArraysSupport_hugeLength O f v0 v1 M) := by
  unfold f_ArraysSupport_hugeLength
  refine xZ.adv (me := xm262) hP_262 5 (pc' := 5) (lv' := [(2, .int ((yw v0) + (yw v1))), (0, .int (yw v0)), (1, .int (yw v1))]) (st' := [.int ((yw v0) + (yw v1))]) rfl ?_
  refine xZ.eqs (lv2 := [(2, .int (yw (v0 + v1))), (0, .int (yw v0)), (1, .int (yw v1))]) (st2 := [.int (yw (v0 + v1))]) (by simp only [yl_lit, yL_lit, yw_add, yw_sub, yw_mul, yw_neg, yl_add, yl_sub, yl_mul, cj_and, cj_or, cj_xor, cj_shl, cj_shr, cj_ushr, cj_div, cj_i2c, cj_i2b, cj_dc, ck_and, ck_or, ck_xor, ck_shl, ck_shr, ck_ushr, ck_i2l, ck_l2i, ck_cmp]) (by simp only [yl_lit, yL_lit, yw_add, yw_sub, yw_mul, yw_neg, yl_add, yl_sub, yl_mul, cj_and, cj_or, cj_xor, cj_shl, cj_shr, cj_ushr, cj_div, cj_i2c, cj_i2b, cj_dc, ck_and, ck_or, ck_xor, ck_shl, ck_shr, ck_ushr, ck_i2l, ck_l2i, ck_cmp]) ?_
  refine xZ.jf_ge (me := xm262) hP_262 rfl (fun h1 => ?_) (fun h1 => ?_)
  · skip
    refine xZ.adv (me := xm262) hP_262 2 (pc' := 52) (lv' := [(2, .int (yw (v0 + v1))), (0, .int (yw v0)), (1, .int (yw v1))]) (st' := [.int (2147483639 : Int32), .int (yw (v0 + v1))]) rfl ?_
    refine xZ.eqs (lv2 := [(2, .int (yw (v0 + v1))), (0, .int (yw v0)), (1, .int (yw v1))]) (st2 := [.int (yw 2147483639), .int (yw (v0 + v1))]) rfl (by simp only [yl_lit, yL_lit, yw_add, yw_sub, yw_mul, yw_neg, yl_add, yl_sub, yl_mul, cj_and, cj_or, cj_xor, cj_shl, cj_shr, cj_ushr, cj_div, cj_i2c, cj_i2b, cj_dc, ck_and, ck_or, ck_xor, ck_shl, ck_shr, ck_ushr, ck_i2l, ck_l2i, ck_cmp]) ?_
    refine xZ.jc_gt (me := xm262) hP_262 rfl (fun h2 => ?_) (fun h2 => ?_)
    · skip
      refine xZ.adv (me := xm262) hP_262 1 (pc' := 59) (lv' := [(2, .int (yw (v0 + v1))), (0, .int (yw v0)), (1, .int (yw v1))]) (st' := [.int (yw (v0 + v1))]) rfl ?_
      exact xZ.jreti (me := xm262) hP_262 rfl rfl
    · skip
      refine xZ.adv (me := xm262) hP_262 1 (pc' := 57) (lv' := [(2, .int (yw (v0 + v1))), (0, .int (yw v0)), (1, .int (yw v1))]) (st' := [.int (2147483639 : Int32)]) rfl ?_
      refine xZ.eqs (lv2 := [(2, .int (yw (v0 + v1))), (0, .int (yw v0)), (1, .int (yw v1))]) (st2 := [.int (yw 2147483639)]) rfl (by simp only [yl_lit, yL_lit, yw_add, yw_sub, yw_mul, yw_neg, yl_add, yl_sub, yl_mul, cj_and, cj_or, cj_xor, cj_shl, cj_shr, cj_ushr, cj_div, cj_i2c, cj_i2b, cj_dc, ck_and, ck_or, ck_xor, ck_shl, ck_shr, ck_ushr, ck_i2l, ck_l2i, ck_cmp]) ?_
      exact xZ.jreti (me := xm262) hP_262 rfl rfl
  · skip
    exact xZ.no
def f_ArraysSupport_newLength_21 (O : Nat → Option va_E) (f : Nat) (v0 : Int) (v1 : Int) (M : xM) : Option (Int × xM) :=
  xcl (f_ArraysSupport_hugeLength O f v0 v1 M) fun x1 M1 =>
  some (x1, M1)
set_option maxRecDepth 20000 in
theorem k_f_ArraysSupport_newLength_21 (O : Nat → Option va_E) (f d : Nat) (v0 : Int) (v1 : Int) (M : xM) : xZ oJ O (d + 1) 261 21 [(0, .int (yw v0)), (1, .int (yw v1))] [] M (f_ArraysSupport_newLength_21 O f v0 v1 M) := by
  unfold f_ArraysSupport_newLength_21
  refine xZ.adv (me := xm261) hP_261 2 (pc' := 23) (lv' := [(0, .int (yw v0)), (1, .int (yw v1))]) (st' := [.int (yw v1), .int (yw v0)]) rfl ?_
  refine xZ.calls (κ := oJ) (av := [.int (yw v0), .int (yw v1)]) (rest := []) (st' := fun x1 => [.int (yw x1)]) (me := xm261) hP_261 rfl rfl rfl (Nat.le_of_ble_eq_true rfl) (by decide) hP_262 (Nat.le_of_ble_eq_true rfl) (fun _ => rfl) (k_f_ArraysSupport_hugeLength O f (d + 0) v0 v1 M) (fun x1 M1 => ?_)
  exact xZ.jreti (me := xm261) hP_261 rfl rfl
def f_ArraysSupport_newLength (O : Nat → Option va_E) (f : Nat) (v0 : Int) (v1 : Int) (v2 : Int) (M : xM) : Option (Int × xM) :=
  xcl (f_Math_max O f v1 v2 M) fun x1 M1 =>
  if yw (v0 + x1) ≤ yw 0 then (
    f_ArraysSupport_newLength_21 O f v0 v1 M1
  ) else
  if yw 2147483639 < yw (v0 + x1) then (
    f_ArraysSupport_newLength_21 O f v0 v1 M1
  ) else
  some ((v0 + x1), M1)
set_option maxRecDepth 20000 in
theorem k_f_ArraysSupport_newLength (O : Nat → Option va_E) (f d : Nat) (v0 : Int) (v1 : Int) (v2 : Int) (M : xM) : xZ oJ O (d + 1) 261 0 [(0, .int (yw v0)), (1, .int (yw v1)), (2, .int (yw v2))] [] M (f_ArraysSupport_newLength O f v0 v1 v2 M) := by
  unfold f_ArraysSupport_newLength
  refine xZ.adv (me := xm261) hP_261 3 (pc' := 3) (lv' := [(0, .int (yw v0)), (1, .int (yw v1)), (2, .int (yw v2))]) (st' := [.int (yw v2), .int (yw v1), .int (yw v0)]) rfl ?_
  refine xZ.calls (κ := oJ) (av := [.int (yw v1), .int (yw v2)]) (rest := [.int (yw v0)]) (st' := fun x1 => [.int (yw x1), .int (yw v0)]) (me := xm261) hP_261 rfl rfl rfl (Nat.le_of_ble_eq_true rfl) (by decide) hP_247 (Nat.le_of_ble_eq_true rfl) (fun _ => rfl) (k_f_Math_max O f (d + 0) v1 v2 M) (fun x1 M1 => ?_)
  refine xZ.adv (me := xm261) hP_261 4 (pc' := 10) (lv' := [(3, .int ((yw v0) + (yw x1))), (0, .int (yw v0)), (1, .int (yw v1)), (2, .int (yw v2))]) (st' := [.int ((yw v0) + (yw x1)), .int (0 : Int32)]) rfl ?_
  refine xZ.eqs (lv2 := [(3, .int (yw (v0 + x1))), (0, .int (yw v0)), (1, .int (yw v1)), (2, .int (yw v2))]) (st2 := [.int (yw (v0 + x1)), .int (yw 0)]) (by simp only [yl_lit, yL_lit, yw_add, yw_sub, yw_mul, yw_neg, yl_add, yl_sub, yl_mul, cj_and, cj_or, cj_xor, cj_shl, cj_shr, cj_ushr, cj_div, cj_i2c, cj_i2b, cj_dc, ck_and, ck_or, ck_xor, ck_shl, ck_shr, ck_ushr, ck_i2l, ck_l2i, ck_cmp]) (by simp only [yl_lit, yL_lit, yw_add, yw_sub, yw_mul, yw_neg, yl_add, yl_sub, yl_mul, cj_and, cj_or, cj_xor, cj_shl, cj_shr, cj_ushr, cj_div, cj_i2c, cj_i2b, cj_dc, ck_and, ck_or, ck_xor, ck_shl, ck_shr, ck_ushr, ck_i2l, ck_l2i, ck_cmp]) ?_
  refine xZ.jc_ge (me := xm261) hP_261 rfl (fun h1 => ?_) (fun h1 => ?_)
  · skip
    exact xZ.sub (xsc (.tail _ (.head _)) (xsc (.tail _ (.tail _ (.head _))) xsn)) (show ([3, 0, 1, 2] : List Nat).Nodup from by decide) (k_f_ArraysSupport_newLength_21 O f d v0 v1 M1)
  · skip
    refine xZ.adv (me := xm261) hP_261 2 (pc' := 16) (lv' := [(3, .int (yw (v0 + x1))), (0, .int (yw v0)), (1, .int (yw v1)), (2, .int (yw v2))]) (st' := [.int (2147483639 : Int32), .int (yw (v0 + x1))]) rfl ?_
    refine xZ.eqs (lv2 := [(3, .int (yw (v0 + x1))), (0, .int (yw v0)), (1, .int (yw v1)), (2, .int (yw v2))]) (st2 := [.int (yw 2147483639), .int (yw (v0 + x1))]) rfl (by simp only [yl_lit, yL_lit, yw_add, yw_sub, yw_mul, yw_neg, yl_add, yl_sub, yl_mul, cj_and, cj_or, cj_xor, cj_shl, cj_shr, cj_ushr, cj_div, cj_i2c, cj_i2b, cj_dc, ck_and, ck_or, ck_xor, ck_shl, ck_shr, ck_ushr, ck_i2l, ck_l2i, ck_cmp]) ?_
    refine xZ.jc_gt (me := xm261) hP_261 rfl (fun h2 => ?_) (fun h2 => ?_)
    · skip
      exact xZ.sub (xsc (.tail _ (.head _)) (xsc (.tail _ (.tail _ (.head _))) xsn)) (show ([3, 0, 1, 2] : List Nat).Nodup from by decide) (k_f_ArraysSupport_newLength_21 O f d v0 v1 M1)
    · skip
      refine xZ.adv (me := xm261) hP_261 1 (pc' := 20) (lv' := [(3, .int (yw (v0 + x1))), (0, .int (yw v0)), (1, .int (yw v1)), (2, .int (yw v2))]) (st' := [.int (yw (v0 + x1))]) rfl ?_
      exact xZ.jreti (me := xm261) hP_261 rfl rfl
def f_AbstractStringBuilder_newCapacity (O : Nat → Option va_E) (f : Nat) (v0 : Nat) (v1 : Int) (M : xM) : Option (Int × xM) :=
  (gR O M v0 1 0).bind fun x1 =>
  (aJN O M x1).bind fun x2 =>
  (gJ O M v0 1 1).bind fun x3 =>
  xlet ((jshl v1 (jand x3 31)) - x2) fun x4 =>
  (gJ O M v0 1 1).bind fun x5 =>
  xcl (f_ArraysSupport_newLength O f x2 x4 (x2 + (jshl 2 (jand x5 31))) M) fun x6 M1 =>
  if yw x6 = yw 2147483647 then (
    none
  ) else
  (gJ O M1 v0 1 1).bind fun x7 =>
  some ((jshr x6 (jand x7 31)), M1)
set_option maxRecDepth 20000 in
theorem k_f_AbstractStringBuilder_newCapacity (O : Nat → Option va_E) (f d : Nat) (v0 : Nat) (v1 : Int) (M : xM) : xZ oJ O (d + 2) 260 0 [(0, .ref v0), (1, .int (yw v1))] [] M (f_AbstractStringBuilder_newCapacity O f v0 v1 M) := by
  unfold f_AbstractStringBuilder_newCapacity
  refine xZ.adv (me := xm260) hP_260 1 (pc' := 1) (lv' := [(0, .ref v0), (1, .int (yw v1))]) (st' := [.ref v0]) rfl ?_
  refine xZ.k_gR (me := xm260) hP_260 rfl (fun x1 => ?_)
  refine xZ.k_aJN (me := xm260) hP_260 rfl (fun x2 => ?_)
  refine xZ.adv (me := xm260) hP_260 3 (pc' := 8) (lv' := [(2, .int (yw x2)), (0, .ref v0), (1, .int (yw v1))]) (st' := [.ref v0, .int (yw v1)]) rfl ?_
  refine xZ.k_gJ (me := xm260) hP_260 rfl (fun x3 => ?_)
  refine xZ.adv (me := xm260) hP_260 6 (pc' := 18) (lv' := [(4, .int (((yw v1) <<< ((yw x3) &&& 31)) - (yw x2))), (3, .int ((yw v1) <<< ((yw x3) &&& 31))), (2, .int (yw x2)), (0, .ref v0), (1, .int (yw v1))]) (st' := []) rfl ?_
  refine xZ.eqs (lv2 := [(4, .int (yw ((jshl v1 (jand x3 31)) - x2))), (3, .int (yw (jshl v1 (jand x3 31)))), (2, .int (yw x2)), (0, .ref v0), (1, .int (yw v1))]) (st2 := []) (by simp only [yl_lit, yL_lit, yw_add, yw_sub, yw_mul, yw_neg, yl_add, yl_sub, yl_mul, cj_and, cj_or, cj_xor, cj_shl, cj_shr, cj_ushr, cj_div, cj_i2c, cj_i2b, cj_dc, ck_and, ck_or, ck_xor, ck_shl, ck_shr, ck_ushr, ck_i2l, ck_l2i, ck_cmp]) rfl ?_
  refine xZ.letI (v := ((jshl v1 (jand x3 31)) - x2)) (lvf := fun x4 => [(4, .int (yw x4)), (3, .int (yw (jshl v1 (jand x3 31)))), (2, .int (yw x2)), (0, .ref v0), (1, .int (yw v1))]) (stf := fun x4 => []) ?_
  intro x4
  refine xZ.adv (me := xm260) hP_260 5 (pc' := 24) (lv' := [(4, .int (yw x4)), (3, .int (yw (jshl v1 (jand x3 31)))), (2, .int (yw x2)), (0, .ref v0), (1, .int (yw v1))]) (st' := [.ref v0, .int (2 : Int32), .int (yw x2), .int (yw x4), .int (yw x2)]) rfl ?_
  refine xZ.eqs (lv2 := [(4, .int (yw x4)), (3, .int (yw (jshl v1 (jand x3 31)))), (2, .int (yw x2)), (0, .ref v0), (1, .int (yw v1))]) (st2 := [.ref v0, .int (yw 2), .int (yw x2), .int (yw x4), .int (yw x2)]) rfl (by simp only [yl_lit, yL_lit, yw_add, yw_sub, yw_mul, yw_neg, yl_add, yl_sub, yl_mul, cj_and, cj_or, cj_xor, cj_shl, cj_shr, cj_ushr, cj_div, cj_i2c, cj_i2b, cj_dc, ck_and, ck_or, ck_xor, ck_shl, ck_shr, ck_ushr, ck_i2l, ck_l2i, ck_cmp]) ?_
  refine xZ.k_gJ (me := xm260) hP_260 rfl (fun x5 => ?_)
  refine xZ.adv (me := xm260) hP_260 2 (pc' := 29) (lv' := [(4, .int (yw x4)), (3, .int (yw (jshl v1 (jand x3 31)))), (2, .int (yw x2)), (0, .ref v0), (1, .int (yw v1))]) (st' := [.int ((yw x2) + ((yw 2) <<< ((yw x5) &&& 31))), .int (yw x4), .int (yw x2)]) rfl ?_
  refine xZ.eqs (lv2 := [(4, .int (yw x4)), (3, .int (yw (jshl v1 (jand x3 31)))), (2, .int (yw x2)), (0, .ref v0), (1, .int (yw v1))]) (st2 := [.int (yw (x2 + (jshl 2 (jand x5 31)))), .int (yw x4), .int (yw x2)]) rfl (by simp only [yl_lit, yL_lit, yw_add, yw_sub, yw_mul, yw_neg, yl_add, yl_sub, yl_mul, cj_and, cj_or, cj_xor, cj_shl, cj_shr, cj_ushr, cj_div, cj_i2c, cj_i2b, cj_dc, ck_and, ck_or, ck_xor, ck_shl, ck_shr, ck_ushr, ck_i2l, ck_l2i, ck_cmp]) ?_
  refine xZ.calls (κ := oJ) (av := [.int (yw x2), .int (yw x4), .int (yw (x2 + (jshl 2 (jand x5 31))))]) (rest := []) (st' := fun x6 => [.int (yw x6)]) (me := xm260) hP_260 rfl rfl rfl (Nat.le_of_ble_eq_true rfl) (by decide) hP_261 (Nat.le_of_ble_eq_true rfl) (fun _ => rfl) (k_f_ArraysSupport_newLength O f (d + 0) x2 x4 (x2 + (jshl 2 (jand x5 31))) M) (fun x6 M1 => ?_)
  refine xZ.adv (me := xm260) hP_260 3 (pc' := 38) (lv' := [(5, .int (yw x6)), (4, .int (yw x4)), (3, .int (yw (jshl v1 (jand x3 31)))), (2, .int (yw x2)), (0, .ref v0), (1, .int (yw v1))]) (st' := [.int (2147483647 : Int32), .int (yw x6)]) rfl ?_
  refine xZ.eqs (lv2 := [(5, .int (yw x6)), (4, .int (yw x4)), (3, .int (yw (jshl v1 (jand x3 31)))), (2, .int (yw x2)), (0, .ref v0), (1, .int (yw v1))]) (st2 := [.int (yw 2147483647), .int (yw x6)]) rfl (by simp only [yl_lit, yL_lit, yw_add, yw_sub, yw_mul, yw_neg, yl_add, yl_sub, yl_mul, cj_and, cj_or, cj_xor, cj_shl, cj_shr, cj_ushr, cj_div, cj_i2c, cj_i2b, cj_dc, ck_and, ck_or, ck_xor, ck_shl, ck_shr, ck_ushr, ck_i2l, ck_l2i, ck_cmp]) ?_
  refine xZ.jc_ne (me := xm260) hP_260 rfl (fun h1 => ?_) (fun h1 => ?_)
  · skip
    exact xZ.no
  · skip
    refine xZ.adv (me := xm260) hP_260 2 (pc' := 54) (lv' := [(5, .int (yw x6)), (4, .int (yw x4)), (3, .int (yw (jshl v1 (jand x3 31)))), (2, .int (yw x2)), (0, .ref v0), (1, .int (yw v1))]) (st' := [.ref v0, .int (yw x6)]) rfl ?_
    refine xZ.k_gJ (me := xm260) hP_260 rfl (fun x7 => ?_)
    refine xZ.adv (me := xm260) hP_260 1 (pc' := 58) (lv' := [(5, .int (yw x6)), (4, .int (yw x4)), (3, .int (yw (jshl v1 (jand x3 31)))), (2, .int (yw x2)), (0, .ref v0), (1, .int (yw v1))]) (st' := [.int ((yw x6) >>> ((yw x7) &&& 31))]) rfl ?_
    refine xZ.eqs (lv2 := [(5, .int (yw x6)), (4, .int (yw x4)), (3, .int (yw (jshl v1 (jand x3 31)))), (2, .int (yw x2)), (0, .ref v0), (1, .int (yw v1))]) (st2 := [.int (yw (jshr x6 (jand x7 31)))]) rfl (by simp only [yl_lit, yL_lit, yw_add, yw_sub, yw_mul, yw_neg, yl_add, yl_sub, yl_mul, cj_and, cj_or, cj_xor, cj_shl, cj_shr, cj_ushr, cj_div, cj_i2c, cj_i2b, cj_dc, ck_and, ck_or, ck_xor, ck_shl, ck_shr, ck_ushr, ck_i2l, ck_l2i, ck_cmp]) ?_
    exact xZ.jreti (me := xm260) hP_260 rfl rfl
