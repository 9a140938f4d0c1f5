/-! ===== texts ===== -/
def f_Zone_commonOf (O : Nat → Option va_E) (f : Nat) (v0 : Nat) (v1 : Int) (M : xM) : Option (Int × xM) :=
  (gJ O M v0 11 1).bind fun x1 =>
  (isO O M v0 11).bind fun _ =>
  xcl (f_Zone_isSummer O f v0 (v1 - x1) M) fun x2 M1 =>
  if yw x2 = yw 0 then (
    (gJ O M1 v0 11 0).bind fun x3 =>
    some ((v1 - x3), M1)
  ) else
  (gJ O M1 v0 11 1).bind fun x4 =>
  (gJ O M1 v0 11 0).bind fun x5 =>
  some (((v1 - x4) - x5), M1)
set_option maxRecDepth 20000 in
theorem k_f_Zone_commonOf (O : Nat → Option va_E) (f d : Nat) (v0 : Nat) (v1 : Int) (M : xM) : xZ oJ O (d + 3) 105 0 [(0, .ref v0), (1, .int (yw v1))] [] M (f_Zone_commonOf O f v0 v1 M) := by
  unfold f_Zone_commonOf
  refine xZ.adv (me := xm105) hP_105 3 (pc' := 3) (lv' := [(0, .ref v0), (1, .int (yw v1))]) (st' := [.ref v0, .int (yw v1), .ref v0]) rfl ?_
  refine xZ.k_gJ (me := xm105) hP_105 rfl (fun x1 => ?_)
  refine xZ.adv (me := xm105) hP_105 1 (pc' := 7) (lv' := [(0, .ref v0), (1, .int (yw v1))]) (st' := [.int ((yw v1) - (yw x1)), .ref v0]) rfl ?_
  refine xZ.eqs (lv2 := [(0, .ref v0), (1, .int (yw v1))]) (st2 := [.int (yw (v1 - x1)), .ref v0]) rfl (by simp only [yl_lit, yL_lit, yw_add, yw_sub, yw_mul, yw_neg, yl_add, yl_sub, yl_mul, cj_and, cj_or, cj_xor, cj_shl, cj_shr, cj_ushr, cj_div, cj_i2c, cj_i2b, cj_dc, ck_and, ck_or, ck_xor, ck_shl, ck_shr, ck_ushr, ck_i2l, ck_l2i, ck_cmp]) ?_
  refine xZ.callv (κ := oJ) (av := [.int (yw (v1 - x1))]) (rest := []) (st' := fun x2 => [.int (yw x2)]) (k0 := v0) (me := xm105) hP_105 rfl (Or.inl rfl) ⟨rfl, by decide⟩ rfl rfl (Nat.le_of_ble_eq_true rfl) (by decide) hP_106 (Nat.le_of_ble_eq_true rfl) (fun _ => rfl) (k_f_Zone_isSummer O f (d + 0) v0 (v1 - x1) M) (fun x2 M1 => ?_)
  refine xZ.jf_eq (me := xm105) hP_105 rfl (fun h1 => ?_) (fun h1 => ?_)
  · skip
    refine xZ.adv (me := xm105) hP_105 2 (pc' := 29) (lv' := [(0, .ref v0), (1, .int (yw v1))]) (st' := [.ref v0, .int (yw v1)]) rfl ?_
    refine xZ.k_gJ (me := xm105) hP_105 rfl (fun x3 => ?_)
    refine xZ.adv (me := xm105) hP_105 1 (pc' := 33) (lv' := [(0, .ref v0), (1, .int (yw v1))]) (st' := [.int ((yw v1) - (yw x3))]) rfl ?_
    refine xZ.eqs (lv2 := [(0, .ref v0), (1, .int (yw v1))]) (st2 := [.int (yw (v1 - x3))]) rfl (by simp only [yl_lit, yL_lit, yw_add, yw_sub, yw_mul, yw_neg, yl_add, yl_sub, yl_mul, cj_and, cj_or, cj_xor, cj_shl, cj_shr, cj_ushr, cj_div, cj_i2c, cj_i2b, cj_dc, ck_and, ck_or, ck_xor, ck_shl, ck_shr, ck_ushr, ck_i2l, ck_l2i, ck_cmp]) ?_
    exact xZ.jreti (me := xm105) hP_105 rfl rfl
  · skip
    refine xZ.adv (me := xm105) hP_105 2 (pc' := 15) (lv' := [(0, .ref v0), (1, .int (yw v1))]) (st' := [.ref v0, .int (yw v1)]) rfl ?_
    refine xZ.k_gJ (me := xm105) hP_105 rfl (fun x4 => ?_)
    refine xZ.adv (me := xm105) hP_105 2 (pc' := 20) (lv' := [(0, .ref v0), (1, .int (yw v1))]) (st' := [.ref v0, .int ((yw v1) - (yw x4))]) rfl ?_
    refine xZ.eqs (lv2 := [(0, .ref v0), (1, .int (yw v1))]) (st2 := [.ref v0, .int (yw (v1 - x4))]) rfl (by simp only [yl_lit, yL_lit, yw_add, yw_sub, yw_mul, yw_neg, yl_add, yl_sub, yl_mul, cj_and, cj_or, cj_xor, cj_shl, cj_shr, cj_ushr, cj_div, cj_i2c, cj_i2b, cj_dc, ck_and, ck_or, ck_xor, ck_shl, ck_shr, ck_ushr, ck_i2l, ck_l2i, ck_cmp]) ?_
    refine xZ.k_gJ (me := xm105) hP_105 rfl (fun x5 => ?_)
    refine xZ.adv (me := xm105) hP_105 2 (pc' := 33) (lv' := [(0, .ref v0), (1, .int (yw v1))]) (st' := [.int ((yw (v1 - x4)) - (yw x5))]) rfl ?_
    refine xZ.eqs (lv2 := [(0, .ref v0), (1, .int (yw v1))]) (st2 := [.int (yw ((v1 - x4) - x5))]) rfl (by simp only [yl_lit, yL_lit, yw_add, yw_sub, yw_mul, yw_neg, yl_add, yl_sub, yl_mul, cj_and, cj_or, cj_xor, cj_shl, cj_shr, cj_ushr, cj_div, cj_i2c, cj_i2b, cj_dc, ck_and, ck_or, ck_xor, ck_shl, ck_shr, ck_ushr, ck_i2l, ck_l2i, ck_cmp]) ?_
    exact xZ.jreti (me := xm105) hP_105 rfl rfl
def f_Series_exceptionTo (O : Nat → Option va_E) (f : Nat) (v0 : Nat) (v1 : Int) (M : xM) : Option (Int × xM) :=
  if yw v1 < yw 0 then (
    some ((-1), M)
  ) else
  (gR O M v0 10 9).bind fun x1 =>
  (aJN O M x1).bind fun x2 =>
  if yw x2 ≤ yw v1 then (
    some ((-1), M)
  ) else
  (gR O M v0 10 9).bind fun x3 =>
  (aJ O M x3 v1).bind fun x4 =>
  some (x4, M)
set_option maxRecDepth 20000 in
theorem k_f_Series_exceptionTo (O : Nat → Option va_E) (f d : Nat) (v0 : Nat) (v1 : Int) (M : xM) : xZ oJ O (d + 0) 108 0 [(0, .ref v0), (1, .int (yw v1))] [] M (f_Series_exceptionTo O f v0 v1 M) := by
  unfold f_Series_exceptionTo
  refine xZ.adv (me := xm108) hP_108 1 (pc' := 1) (lv' := [(0, .ref v0), (1, .int (yw v1))]) (st' := [.int (yw v1)]) rfl ?_
  refine xZ.jf_lt (me := xm108) hP_108 rfl (fun h1 => ?_) (fun h1 => ?_)
  · skip
    refine xZ.adv (me := xm108) hP_108 1 (pc' := 23) (lv' := [(0, .ref v0), (1, .int (yw v1))]) (st' := [.int (-1 : Int32)]) rfl ?_
    refine xZ.eqs (lv2 := [(0, .ref v0), (1, .int (yw v1))]) (st2 := [.int (yw (-1))]) rfl (by simp only [yl_lit, yL_lit, yw_add, yw_sub, yw_mul, yw_neg, yl_add, yl_sub, yl_mul, cj_and, cj_or, cj_xor, cj_shl, cj_shr, cj_ushr, cj_div, cj_i2c, cj_i2b, cj_dc, ck_and, ck_or, ck_xor, ck_shl, ck_shr, ck_ushr, ck_i2l, ck_l2i, ck_cmp]) ?_
    exact xZ.jreti (me := xm108) hP_108 rfl rfl
  · skip
    refine xZ.adv (me := xm108) hP_108 2 (pc' := 6) (lv' := [(0, .ref v0), (1, .int (yw v1))]) (st' := [.ref v0, .int (yw v1)]) rfl ?_
    refine xZ.k_gR (me := xm108) hP_108 rfl (fun x1 => ?_)
    refine xZ.k_aJN (me := xm108) hP_108 rfl (fun x2 => ?_)
    refine xZ.jc_ge (me := xm108) hP_108 rfl (fun h2 => ?_) (fun h2 => ?_)
    · skip
      refine xZ.adv (me := xm108) hP_108 1 (pc' := 23) (lv' := [(0, .ref v0), (1, .int (yw v1))]) (st' := [.int (-1 : Int32)]) rfl ?_
      refine xZ.eqs (lv2 := [(0, .ref v0), (1, .int (yw v1))]) (st2 := [.int (yw (-1))]) rfl (by simp only [yl_lit, yL_lit, yw_add, yw_sub, yw_mul, yw_neg, yl_add, yl_sub, yl_mul, cj_and, cj_or, cj_xor, cj_shl, cj_shr, cj_ushr, cj_div, cj_i2c, cj_i2b, cj_dc, ck_and, ck_or, ck_xor, ck_shl, ck_shr, ck_ushr, ck_i2l, ck_l2i, ck_cmp]) ?_
      exact xZ.jreti (me := xm108) hP_108 rfl rfl
    · skip
      refine xZ.adv (me := xm108) hP_108 1 (pc' := 14) (lv' := [(0, .ref v0), (1, .int (yw v1))]) (st' := [.ref v0]) rfl ?_
      refine xZ.k_gR (me := xm108) hP_108 rfl (fun x3 => ?_)
      refine xZ.adv (me := xm108) hP_108 1 (pc' := 18) (lv' := [(0, .ref v0), (1, .int (yw v1))]) (st' := [.int (yw v1), .ref x3]) rfl ?_
      refine xZ.k_aJ (me := xm108) hP_108 rfl (fun x4 => ?_)
      refine xZ.adv (me := xm108) hP_108 1 (pc' := 23) (lv' := [(0, .ref v0), (1, .int (yw v1))]) (st' := [.int (yw x4)]) rfl ?_
      exact xZ.jreti (me := xm108) hP_108 rfl rfl
def f_Series_beginOf (O : Nat → Option va_E) (f : Nat) (v0 : Nat) (v1 : Nat) (v2 : Int) (M : xM) : Option (Int × xM) :=
  (isO O M v0 10).bind fun _ =>
  xcl (f_Series_exceptionOf O f v0 v2 M) fun x1 M1 =>
  if yw x1 = yw (-1) then (
    (gJ O M1 v0 10 2).bind fun x2 =>
    (isO O M1 v1 11).bind fun _ =>
    xcl (f_Zone_commonOf O f v1 ((v2 * 1440) + x2) M1) fun x3 M2 =>
    some (x3, M2)
  ) else
  (isO O M1 v0 10).bind fun _ =>
  xcl (f_Series_exceptionTo O f v0 x1 M1) fun x4 M3 =>
  if yw x4 = yw (-1) then (
    some ((-1), M3)
  ) else
  (isO O M3 v1 11).bind fun _ =>
  xcl (f_Zone_commonOf O f v1 x4 M3) fun x5 M4 =>
  some (x5, M4)
set_option maxRecDepth 20000 in
theorem k_f_Series_beginOf (O : Nat → Option va_E) (f d : Nat) (v0 : Nat) (v1 : Nat) (v2 : Int) (M : xM) : xZ oJ O (d + 4) 103 0 [(0, .ref v0), (1, .ref v1), (2, .int (yw v2))] [] M (f_Series_beginOf O f v0 v1 v2 M) := by
  unfold f_Series_beginOf
  refine xZ.adv (me := xm103) hP_103 2 (pc' := 2) (lv' := [(0, .ref v0), (1, .ref v1), (2, .int (yw v2))]) (st' := [.int (yw v2), .ref v0]) rfl ?_
  refine xZ.callv (κ := oJ) (av := [.int (yw v2)]) (rest := []) (st' := fun x1 => [.int (yw x1)]) (k0 := v0) (me := xm103) hP_103 rfl (Or.inl rfl) ⟨rfl, by decide⟩ rfl rfl (Nat.le_of_ble_eq_true rfl) (by decide) hP_104 (Nat.le_of_ble_eq_true rfl) (fun _ => rfl) (k_f_Series_exceptionOf O f (d + 3) v0 v2 M) (fun x1 M1 => ?_)
  refine xZ.adv (me := xm103) hP_103 3 (pc' := 8) (lv' := [(3, .int (yw x1)), (0, .ref v0), (1, .ref v1), (2, .int (yw v2))]) (st' := [.int (-1 : Int32), .int (yw x1)]) rfl ?_
  refine xZ.eqs (lv2 := [(3, .int (yw x1)), (0, .ref v0), (1, .ref v1), (2, .int (yw v2))]) (st2 := [.int (yw (-1)), .int (yw x1)]) rfl (by simp only [yl_lit, yL_lit, yw_add, yw_sub, yw_mul, yw_neg, yl_add, yl_sub, yl_mul, cj_and, cj_or, cj_xor, cj_shl, cj_shr, cj_ushr, cj_div, cj_i2c, cj_i2b, cj_dc, ck_and, ck_or, ck_xor, ck_shl, ck_shr, ck_ushr, ck_i2l, ck_l2i, ck_cmp]) ?_
  refine xZ.jc_ne (me := xm103) hP_103 rfl (fun h1 => ?_) (fun h1 => ?_)
  · skip
    refine xZ.adv (me := xm103) hP_103 5 (pc' := 18) (lv' := [(3, .int (yw x1)), (0, .ref v0), (1, .ref v1), (2, .int (yw v2))]) (st' := [.ref v0, .int ((yw v2) * (1440 : Int32)), .ref v1]) rfl ?_
    refine xZ.eqs (lv2 := [(3, .int (yw x1)), (0, .ref v0), (1, .ref v1), (2, .int (yw v2))]) (st2 := [.ref v0, .int (yw (v2 * 1440)), .ref v1]) rfl (by simp only [yl_lit, yL_lit, yw_add, yw_sub, yw_mul, yw_neg, yl_add, yl_sub, yl_mul, cj_and, cj_or, cj_xor, cj_shl, cj_shr, cj_ushr, cj_div, cj_i2c, cj_i2b, cj_dc, ck_and, ck_or, ck_xor, ck_shl, ck_shr, ck_ushr, ck_i2l, ck_l2i, ck_cmp]) ?_
    refine xZ.k_gJ (me := xm103) hP_103 rfl (fun x2 => ?_)
    refine xZ.adv (me := xm103) hP_103 1 (pc' := 22) (lv' := [(3, .int (yw x1)), (0, .ref v0), (1, .ref v1), (2, .int (yw v2))]) (st' := [.int ((yw (v2 * 1440)) + (yw x2)), .ref v1]) rfl ?_
    refine xZ.eqs (lv2 := [(3, .int (yw x1)), (0, .ref v0), (1, .ref v1), (2, .int (yw v2))]) (st2 := [.int (yw ((v2 * 1440) + x2)), .ref v1]) rfl (by simp only [yl_lit, yL_lit, yw_add, yw_sub, yw_mul, yw_neg, yl_add, yl_sub, yl_mul, cj_and, cj_or, cj_xor, cj_shl, cj_shr, cj_ushr, cj_div, cj_i2c, cj_i2b, cj_dc, ck_and, ck_or, ck_xor, ck_shl, ck_shr, ck_ushr, ck_i2l, ck_l2i, ck_cmp]) ?_
    refine xZ.callv (κ := oJ) (av := [.int (yw ((v2 * 1440) + x2))]) (rest := []) (st' := fun x3 => [.int (yw x3)]) (k0 := v1) (me := xm103) hP_103 rfl (Or.inl rfl) ⟨rfl, by decide⟩ rfl rfl (Nat.le_of_ble_eq_true rfl) (by decide) hP_105 (Nat.le_of_ble_eq_true rfl) (fun _ => rfl) (k_f_Zone_commonOf O f (d + 0) v1 ((v2 * 1440) + x2) M1) (fun x3 M2 => ?_)
    exact xZ.jreti (me := xm103) hP_103 rfl rfl
  · skip
    refine xZ.adv (me := xm103) hP_103 2 (pc' := 28) (lv' := [(3, .int (yw x1)), (0, .ref v0), (1, .ref v1), (2, .int (yw v2))]) (st' := [.int (yw x1), .ref v0]) rfl ?_
    refine xZ.callv (κ := oJ) (av := [.int (yw x1)]) (rest := []) (st' := fun x4 => [.int (yw x4)]) (k0 := v0) (me := xm103) hP_103 rfl (Or.inl rfl) ⟨rfl, by decide⟩ rfl rfl (Nat.le_of_ble_eq_true rfl) (by decide) hP_108 (Nat.le_of_ble_eq_true rfl) (fun _ => rfl) (k_f_Series_exceptionTo O f (d + 3) v0 x1 M1) (fun x4 M3 => ?_)
    refine xZ.adv (me := xm103) hP_103 3 (pc' := 36) (lv' := [(4, .int (yw x4)), (3, .int (yw x1)), (0, .ref v0), (1, .ref v1), (2, .int (yw v2))]) (st' := [.int (-1 : Int32), .int (yw x4)]) rfl ?_
    refine xZ.eqs (lv2 := [(4, .int (yw x4)), (3, .int (yw x1)), (0, .ref v0), (1, .ref v1), (2, .int (yw v2))]) (st2 := [.int (yw (-1)), .int (yw x4)]) rfl (by simp only [yl_lit, yL_lit, yw_add, yw_sub, yw_mul, yw_neg, yl_add, yl_sub, yl_mul, cj_and, cj_or, cj_xor, cj_shl, cj_shr, cj_ushr, cj_div, cj_i2c, cj_i2b, cj_dc, ck_and, ck_or, ck_xor, ck_shl, ck_shr, ck_ushr, ck_i2l, ck_l2i, ck_cmp]) ?_
    refine xZ.jc_ne (me := xm103) hP_103 rfl (fun h2 => ?_) (fun h2 => ?_)
    · skip
      refine xZ.adv (me := xm103) hP_103 2 (pc' := 49) (lv' := [(4, .int (yw x4)), (3, .int (yw x1)), (0, .ref v0), (1, .ref v1), (2, .int (yw v2))]) (st' := [.int (-1 : Int32)]) rfl ?_
      refine xZ.eqs (lv2 := [(4, .int (yw x4)), (3, .int (yw x1)), (0, .ref v0), (1, .ref v1), (2, .int (yw v2))]) (st2 := [.int (yw (-1))]) rfl (by simp only [yl_lit, yL_lit, yw_add, yw_sub, yw_mul, yw_neg, yl_add, yl_sub, yl_mul, cj_and, cj_or, cj_xor, cj_shl, cj_shr, cj_ushr, cj_div, cj_i2c, cj_i2b, cj_dc, ck_and, ck_or, ck_xor, ck_shl, ck_shr, ck_ushr, ck_i2l, ck_l2i, ck_cmp]) ?_
      exact xZ.jreti (me := xm103) hP_103 rfl rfl
    · skip
      refine xZ.adv (me := xm103) hP_103 2 (pc' := 46) (lv' := [(4, .int (yw x4)), (3, .int (yw x1)), (0, .ref v0), (1, .ref v1), (2, .int (yw v2))]) (st' := [.int (yw x4), .ref v1]) rfl ?_
      refine xZ.callv (κ := oJ) (av := [.int (yw x4)]) (rest := []) (st' := fun x5 => [.int (yw x5)]) (k0 := v1) (me := xm103) hP_103 rfl (Or.inl rfl) ⟨rfl, by decide⟩ rfl rfl (Nat.le_of_ble_eq_true rfl) (by decide) hP_105 (Nat.le_of_ble_eq_true rfl) (fun _ => rfl) (k_f_Zone_commonOf O f (d + 0) v1 x4 M3) (fun x5 M4 => ?_)
      exact xZ.jreti (me := xm103) hP_103 rfl rfl
def f_Calendarhall_begin (O : Nat → Option va_E) (f : Nat) (v0 : Nat) (v1 : Int) (v2 : Int) (M : xM) : Option (Int × xM) :=
  (isO O M v0 12).bind fun _ =>
  xcl (f_Calendarhall_seriesNumbered O f v0 v1 M) fun x1 M1 =>
  (gR O M1 x1 10 6).bind fun x2 =>
  (isO O M1 x2 9).bind fun _ =>
  xcl (f_Rule_isDay O f x2 v2 M1) fun x3 M2 =>
  if yw x3 = yw 0 then (
    none
  ) else
  (gR O M2 v0 12 0).bind fun x4 =>
  (isO O M2 x4 4).bind fun _ =>
  xcl (f_Hall_zoneOf O f x4 x1 M2) fun x5 M3 =>
  (isO O M3 x1 10).bind fun _ =>
  xcl (f_Series_beginOf O f x1 x5 v2 M3) fun x6 M4 =>
  some (x6, M4)
set_option maxRecDepth 20000 in
theorem k_f_Calendarhall_begin (O : Nat → Option va_E) (f d : Nat) (v0 : Nat) (v1 : Int) (v2 : Int) (M : xM) : xZ oJ O (d + 5) 98 0 [(0, .ref v0), (1, .int (yw v1)), (2, .int (yw v2))] [] M (f_Calendarhall_begin O f v0 v1 v2 M) := by
  unfold f_Calendarhall_begin
  refine xZ.adv (me := xm98) hP_98 2 (pc' := 2) (lv' := [(0, .ref v0), (1, .int (yw v1)), (2, .int (yw v2))]) (st' := [.int (yw v1), .ref v0]) rfl ?_
  refine xZ.callv (κ := oR) (av := [.int (yw v1)]) (rest := []) (st' := fun x1 => [.ref x1]) (k0 := v0) (me := xm98) hP_98 rfl (Or.inl rfl) ⟨rfl, by decide⟩ rfl rfl (Nat.le_of_ble_eq_true rfl) (by decide) hP_79 (Nat.le_of_ble_eq_true rfl) (fun _ => rfl) (k_f_Calendarhall_seriesNumbered O f (d + 3) v0 v1 M) (fun x1 M1 => ?_)
  refine xZ.adv (me := xm98) hP_98 2 (pc' := 7) (lv' := [(3, .ref x1), (0, .ref v0), (1, .int (yw v1)), (2, .int (yw v2))]) (st' := [.ref x1]) rfl ?_
  refine xZ.k_gR (me := xm98) hP_98 rfl (fun x2 => ?_)
  refine xZ.adv (me := xm98) hP_98 1 (pc' := 11) (lv' := [(3, .ref x1), (0, .ref v0), (1, .int (yw v1)), (2, .int (yw v2))]) (st' := [.int (yw v2), .ref x2]) rfl ?_
  refine xZ.callv (κ := oJ) (av := [.int (yw v2)]) (rest := []) (st' := fun x3 => [.int (yw x3)]) (k0 := x2) (me := xm98) hP_98 rfl (Or.inl rfl) ⟨rfl, by decide⟩ rfl rfl (Nat.le_of_ble_eq_true rfl) (by decide) hP_99 (Nat.le_of_ble_eq_true rfl) (fun _ => rfl) (k_f_Rule_isDay O f (d + 1) x2 v2 M1) (fun x3 M2 => ?_)
  refine xZ.jf_ne (me := xm98) hP_98 rfl (fun h1 => ?_) (fun h1 => ?_)
  · skip
    exact xZ.no
  · skip
    refine xZ.adv (me := xm98) hP_98 2 (pc' := 27) (lv' := [(3, .ref x1), (0, .ref v0), (1, .int (yw v1)), (2, .int (yw v2))]) (st' := [.ref v0, .ref x1]) rfl ?_
    refine xZ.k_gR (me := xm98) hP_98 rfl (fun x4 => ?_)
    refine xZ.adv (me := xm98) hP_98 1 (pc' := 31) (lv' := [(3, .ref x1), (0, .ref v0), (1, .int (yw v1)), (2, .int (yw v2))]) (st' := [.ref x1, .ref x4, .ref x1]) rfl ?_
    refine xZ.callv (κ := oR) (av := [.ref x1]) (rest := [.ref x1]) (st' := fun x5 => [.ref x5, .ref x1]) (k0 := x4) (me := xm98) hP_98 rfl (Or.inl rfl) ⟨rfl, by decide⟩ rfl rfl (Nat.le_of_ble_eq_true rfl) (by decide) hP_102 (Nat.le_of_ble_eq_true rfl) (fun _ => rfl) (k_f_Hall_zoneOf O f (d + 3) x4 x1 M2) (fun x5 M3 => ?_)
    refine xZ.adv (me := xm98) hP_98 1 (pc' := 35) (lv' := [(3, .ref x1), (0, .ref v0), (1, .int (yw v1)), (2, .int (yw v2))]) (st' := [.int (yw v2), .ref x5, .ref x1]) rfl ?_
    refine xZ.callv (κ := oJ) (av := [.ref x5, .int (yw v2)]) (rest := []) (st' := fun x6 => [.int (yw x6)]) (k0 := x1) (me := xm98) hP_98 rfl (Or.inl rfl) ⟨rfl, by decide⟩ rfl rfl (Nat.le_of_ble_eq_true rfl) (by decide) hP_103 (Nat.le_of_ble_eq_true rfl) (fun _ => rfl) (k_f_Series_beginOf O f (d + 0) x1 x5 v2 M3) (fun x6 M4 => ?_)
    exact xZ.jreti (me := xm98) hP_98 rfl rfl
def f_Series_hasPlaceFor (O : Nat → Option va_E) (f : Nat) (v0 : Nat) (v1 : Int) (M : xM) : Option (Int × xM) :=
  (gJ O M v0 10 7).bind fun x1 =>
  if yw x1 < yw 10 then (
    some (1, M)
  ) else
  (isO O M v0 10).bind fun _ =>
  xcl (f_Series_exceptionOf O f v0 v1 M) fun x2 M1 =>
  if yw x2 = yw (-1) then (
    some (0, M1)
  ) else
  some (1, M1)
set_option maxRecDepth 20000 in
theorem k_f_Series_hasPlaceFor (O : Nat → Option va_E) (f d : Nat) (v0 : Nat) (v1 : Int) (M : xM) : xZ oJ O (d + 1) 110 0 [(0, .ref v0), (1, .int (yw v1))] [] M (f_Series_hasPlaceFor O f v0 v1 M) := by
  unfold f_Series_hasPlaceFor
  refine xZ.adv (me := xm110) hP_110 1 (pc' := 1) (lv' := [(0, .ref v0), (1, .int (yw v1))]) (st' := [.ref v0]) rfl ?_
  refine xZ.k_gJ (me := xm110) hP_110 rfl (fun x1 => ?_)
  refine xZ.adv (me := xm110) hP_110 1 (pc' := 6) (lv' := [(0, .ref v0), (1, .int (yw v1))]) (st' := [.int (10 : Int32), .int (yw x1)]) rfl ?_
  refine xZ.eqs (lv2 := [(0, .ref v0), (1, .int (yw v1))]) (st2 := [.int (yw 10), .int (yw x1)]) rfl (by simp only [yl_lit, yL_lit, yw_add, yw_sub, yw_mul, yw_neg, yl_add, yl_sub, yl_mul, cj_and, cj_or, cj_xor, cj_shl, cj_shr, cj_ushr, cj_div, cj_i2c, cj_i2b, cj_dc, ck_and, ck_or, ck_xor, ck_shl, ck_shr, ck_ushr, ck_i2l, ck_l2i, ck_cmp]) ?_
  refine xZ.jc_lt (me := xm110) hP_110 rfl (fun h1 => ?_) (fun h1 => ?_)
  · skip
    refine xZ.adv (me := xm110) hP_110 2 (pc' := 23) (lv' := [(0, .ref v0), (1, .int (yw v1))]) (st' := [.int (1 : Int32)]) rfl ?_
    refine xZ.eqs (lv2 := [(0, .ref v0), (1, .int (yw v1))]) (st2 := [.int (yw 1)]) rfl (by simp only [yl_lit, yL_lit, yw_add, yw_sub, yw_mul, yw_neg, yl_add, yl_sub, yl_mul, cj_and, cj_or, cj_xor, cj_shl, cj_shr, cj_ushr, cj_div, cj_i2c, cj_i2b, cj_dc, ck_and, ck_or, ck_xor, ck_shl, ck_shr, ck_ushr, ck_i2l, ck_l2i, ck_cmp]) ?_
    exact xZ.jrete (me := xm110) hP_110 rfl rfl rfl
  · skip
    refine xZ.adv (me := xm110) hP_110 2 (pc' := 11) (lv' := [(0, .ref v0), (1, .int (yw v1))]) (st' := [.int (yw v1), .ref v0]) rfl ?_
    refine xZ.callv (κ := oJ) (av := [.int (yw v1)]) (rest := []) (st' := fun x2 => [.int (yw x2)]) (k0 := v0) (me := xm110) hP_110 rfl (Or.inl rfl) ⟨rfl, by decide⟩ rfl rfl (Nat.le_of_ble_eq_true rfl) (by decide) hP_104 (Nat.le_of_ble_eq_true rfl) (fun _ => rfl) (k_f_Series_exceptionOf O f (d + 0) v0 v1 M) (fun x2 M1 => ?_)
    refine xZ.adv (me := xm110) hP_110 1 (pc' := 15) (lv' := [(0, .ref v0), (1, .int (yw v1))]) (st' := [.int (-1 : Int32), .int (yw x2)]) rfl ?_
    refine xZ.eqs (lv2 := [(0, .ref v0), (1, .int (yw v1))]) (st2 := [.int (yw (-1)), .int (yw x2)]) rfl (by simp only [yl_lit, yL_lit, yw_add, yw_sub, yw_mul, yw_neg, yl_add, yl_sub, yl_mul, cj_and, cj_or, cj_xor, cj_shl, cj_shr, cj_ushr, cj_div, cj_i2c, cj_i2b, cj_dc, ck_and, ck_or, ck_xor, ck_shl, ck_shr, ck_ushr, ck_i2l, ck_l2i, ck_cmp]) ?_
    refine xZ.jc_eq (me := xm110) hP_110 rfl (fun h2 => ?_) (fun h2 => ?_)
    · skip
      refine xZ.adv (me := xm110) hP_110 1 (pc' := 23) (lv' := [(0, .ref v0), (1, .int (yw v1))]) (st' := [.int (0 : Int32)]) rfl ?_
      refine xZ.eqs (lv2 := [(0, .ref v0), (1, .int (yw v1))]) (st2 := [.int (yw 0)]) rfl (by simp only [yl_lit, yL_lit, yw_add, yw_sub, yw_mul, yw_neg, yl_add, yl_sub, yl_mul, cj_and, cj_or, cj_xor, cj_shl, cj_shr, cj_ushr, cj_div, cj_i2c, cj_i2b, cj_dc, ck_and, ck_or, ck_xor, ck_shl, ck_shr, ck_ushr, ck_i2l, ck_l2i, ck_cmp]) ?_
      exact xZ.jrete (me := xm110) hP_110 rfl rfl rfl
    · skip
      refine xZ.adv (me := xm110) hP_110 2 (pc' := 23) (lv' := [(0, .ref v0), (1, .int (yw v1))]) (st' := [.int (1 : Int32)]) rfl ?_
      refine xZ.eqs (lv2 := [(0, .ref v0), (1, .int (yw v1))]) (st2 := [.int (yw 1)]) rfl (by simp only [yl_lit, yL_lit, yw_add, yw_sub, yw_mul, yw_neg, yl_add, yl_sub, yl_mul, cj_and, cj_or, cj_xor, cj_shl, cj_shr, cj_ushr, cj_div, cj_i2c, cj_i2b, cj_dc, ck_and, ck_or, ck_xor, ck_shl, ck_shr, ck_ushr, ck_i2l, ck_l2i, ck_cmp]) ?_
      exact xZ.jrete (me := xm110) hP_110 rfl rfl rfl
def f_Series_except_57 (O : Nat → Option va_E) (f : Nat) (v0 : Nat) (v1 : Int) (v2 : Int) (v3 : Int) (M : xM) : Option (Unit × xM) :=
  (gR O M v0 10 8).bind fun x1 =>
  (wJ M x1 v3 v1).bind fun M1 =>
  (gR O M1 v0 10 9).bind fun x2 =>
  (wJ M1 x2 v3 v2).bind fun M2 =>
  some ((), M2)
set_option maxRecDepth 20000 in
theorem k_f_Series_except_57 (O : Nat → Option va_E) (f d : Nat) (v0 : Nat) (v1 : Int) (v2 : Int) (v3 : Int) (M : xM) : xZ oU O (d + 1) 111 57 [(0, .ref v0), (1, .int (yw v1)), (2, .int (yw v2)), (3, .int (yw v3))] [] M (f_Series_except_57 O f v0 v1 v2 v3 M) := by
  unfold f_Series_except_57
  refine xZ.adv (me := xm111) hP_111 1 (pc' := 58) (lv' := [(0, .ref v0), (1, .int (yw v1)), (2, .int (yw v2)), (3, .int (yw v3))]) (st' := [.ref v0]) rfl ?_
  refine xZ.k_gR (me := xm111) hP_111 rfl (fun x1 => ?_)
  refine xZ.adv (me := xm111) hP_111 2 (pc' := 63) (lv' := [(0, .ref v0), (1, .int (yw v1)), (2, .int (yw v2)), (3, .int (yw v3))]) (st' := [.int (yw v1), .int (yw v3), .ref x1]) rfl ?_
  refine xZ.k_wJ (me := xm111) hP_111 rfl (fun M1 => ?_)
  refine xZ.adv (me := xm111) hP_111 1 (pc' := 65) (lv' := [(0, .ref v0), (1, .int (yw v1)), (2, .int (yw v2)), (3, .int (yw v3))]) (st' := [.ref v0]) rfl ?_
  refine xZ.k_gR (me := xm111) hP_111 rfl (fun x2 => ?_)
  refine xZ.adv (me := xm111) hP_111 2 (pc' := 70) (lv' := [(0, .ref v0), (1, .int (yw v1)), (2, .int (yw v2)), (3, .int (yw v3))]) (st' := [.int (yw v2), .int (yw v3), .ref x2]) rfl ?_
  refine xZ.k_wJ (me := xm111) hP_111 rfl (fun M2 => ?_)
  exact xZ.retu (me := xm111) hP_111 rfl rfl
def f_Series_except_16 (O : Nat → Option va_E) (f : Nat) (v0 : Nat) (v1 : Int) (v2 : Int) (v3 : Int) (M : xM) : Option (Unit × xM) :=
  if yw v3 < yw 0 then (
    some ((), M)
  ) else
  (gR O M v0 10 8).bind fun x1 =>
  (aJN O M x1).bind fun x2 =>
  if yw x2 ≤ yw v3 then (
    some ((), M)
  ) else
  (gR O M v0 10 9).bind fun x3 =>
  (aJN O M x3).bind fun x4 =>
  if yw v3 < yw x4 then (
    (gJ O M v0 10 7).bind fun x5 =>
    if yw v3 = yw x5 then (
      (gJ O M v0 10 7).bind fun x6 =>
      (pJ M v0 10 7 (x6 + 1)).bind fun M1 =>
      f_Series_except_57 O f v0 v1 v2 v3 M1
    ) else
    f_Series_except_57 O f v0 v1 v2 v3 M
  ) else
  some ((), M)
set_option maxRecDepth 20000 in
theorem k_f_Series_except_16 (O : Nat → Option va_E) (f d : Nat) (v0 : Nat) (v1 : Int) (v2 : Int) (v3 : Int) (M : xM) : xZ oU O (d + 1) 111 16 [(0, .ref v0), (1, .int (yw v1)), (2, .int (yw v2)), (3, .int (yw v3))] [] M (f_Series_except_16 O f v0 v1 v2 v3 M) := by
  unfold f_Series_except_16
  refine xZ.adv (me := xm111) hP_111 1 (pc' := 17) (lv' := [(0, .ref v0), (1, .int (yw v1)), (2, .int (yw v2)), (3, .int (yw v3))]) (st' := [.int (yw v3)]) rfl ?_
  refine xZ.jf_lt (me := xm111) hP_111 rfl (fun h1 => ?_) (fun h1 => ?_)
  · skip
    exact xZ.retu (me := xm111) hP_111 rfl rfl
  · skip
    refine xZ.adv (me := xm111) hP_111 2 (pc' := 22) (lv' := [(0, .ref v0), (1, .int (yw v1)), (2, .int (yw v2)), (3, .int (yw v3))]) (st' := [.ref v0, .int (yw v3)]) rfl ?_
    refine xZ.k_gR (me := xm111) hP_111 rfl (fun x1 => ?_)
    refine xZ.k_aJN (me := xm111) hP_111 rfl (fun x2 => ?_)
    refine xZ.jc_ge (me := xm111) hP_111 rfl (fun h2 => ?_) (fun h2 => ?_)
    · skip
      exact xZ.retu (me := xm111) hP_111 rfl rfl
    · skip
      refine xZ.adv (me := xm111) hP_111 2 (pc' := 31) (lv' := [(0, .ref v0), (1, .int (yw v1)), (2, .int (yw v2)), (3, .int (yw v3))]) (st' := [.ref v0, .int (yw v3)]) rfl ?_
      refine xZ.k_gR (me := xm111) hP_111 rfl (fun x3 => ?_)
      refine xZ.k_aJN (me := xm111) hP_111 rfl (fun x4 => ?_)
      refine xZ.jc_lt (me := xm111) hP_111 rfl (fun h3 => ?_) (fun h3 => ?_)
      · skip
        refine xZ.adv (me := xm111) hP_111 2 (pc' := 41) (lv' := [(0, .ref v0), (1, .int (yw v1)), (2, .int (yw v2)), (3, .int (yw v3))]) (st' := [.ref v0, .int (yw v3)]) rfl ?_
        refine xZ.k_gJ (me := xm111) hP_111 rfl (fun x5 => ?_)
        refine xZ.jc_ne (me := xm111) hP_111 rfl (fun h4 => ?_) (fun h4 => ?_)
        · skip
          refine xZ.adv (me := xm111) hP_111 2 (pc' := 49) (lv' := [(0, .ref v0), (1, .int (yw v1)), (2, .int (yw v2)), (3, .int (yw v3))]) (st' := [.ref v0, .ref v0]) rfl ?_
          refine xZ.k_gJ (me := xm111) hP_111 rfl (fun x6 => ?_)
          refine xZ.adv (me := xm111) hP_111 2 (pc' := 54) (lv' := [(0, .ref v0), (1, .int (yw v1)), (2, .int (yw v2)), (3, .int (yw v3))]) (st' := [.int ((yw x6) + (1 : Int32)), .ref v0]) rfl ?_
          refine xZ.eqs (lv2 := [(0, .ref v0), (1, .int (yw v1)), (2, .int (yw v2)), (3, .int (yw v3))]) (st2 := [.int (yw (x6 + 1)), .ref v0]) rfl (by simp only [yl_lit, yL_lit, yw_add, yw_sub, yw_mul, yw_neg, yl_add, yl_sub, yl_mul, cj_and, cj_or, cj_xor, cj_shl, cj_shr, cj_ushr, cj_div, cj_i2c, cj_i2b, cj_dc, ck_and, ck_or, ck_xor, ck_shl, ck_shr, ck_ushr, ck_i2l, ck_l2i, ck_cmp]) ?_
          refine xZ.k_pJ (me := xm111) hP_111 rfl (fun M1 => ?_)
          exact (k_f_Series_except_57 O f d v0 v1 v2 v3 M1)
        · skip
          exact (k_f_Series_except_57 O f d v0 v1 v2 v3 M)
      · skip
        exact xZ.retu (me := xm111) hP_111 rfl rfl
def f_Series_except (O : Nat → Option va_E) (f : Nat) (v0 : Nat) (v1 : Int) (v2 : Int) (M : xM) : Option (Unit × xM) :=
  (isO O M v0 10).bind fun _ =>
  xcl (f_Series_exceptionOf O f v0 v1 M) fun x1 M1 =>
  if yw x1 = yw (-1) then (
    (gJ O M1 v0 10 7).bind fun x2 =>
    f_Series_except_16 O f v0 v1 v2 x2 M1
  ) else
  f_Series_except_16 O f v0 v1 v2 x1 M1
set_option maxRecDepth 20000 in
theorem k_f_Series_except (O : Nat → Option va_E) (f d : Nat) (v0 : Nat) (v1 : Int) (v2 : Int) (M : xM) : xZ oU O (d + 1) 111 0 [(0, .ref v0), (1, .int (yw v1)), (2, .int (yw v2))] [] M (f_Series_except O f v0 v1 v2 M) := by
  unfold f_Series_except
  refine xZ.adv (me := xm111) hP_111 2 (pc' := 2) (lv' := [(0, .ref v0), (1, .int (yw v1)), (2, .int (yw v2))]) (st' := [.int (yw v1), .ref v0]) rfl ?_
  refine xZ.callv (κ := oJ) (av := [.int (yw v1)]) (rest := []) (st' := fun x1 => [.int (yw x1)]) (k0 := v0) (me := xm111) hP_111 rfl (Or.inl rfl) ⟨rfl, by decide⟩ rfl rfl (Nat.le_of_ble_eq_true rfl) (by decide) hP_104 (Nat.le_of_ble_eq_true rfl) (fun _ => rfl) (k_f_Series_exceptionOf O f (d + 0) v0 v1 M) (fun x1 M1 => ?_)
  refine xZ.adv (me := xm111) hP_111 3 (pc' := 8) (lv' := [(3, .int (yw x1)), (0, .ref v0), (1, .int (yw v1)), (2, .int (yw v2))]) (st' := [.int (-1 : Int32), .int (yw x1)]) rfl ?_
  refine xZ.eqs (lv2 := [(3, .int (yw x1)), (0, .ref v0), (1, .int (yw v1)), (2, .int (yw v2))]) (st2 := [.int (yw (-1)), .int (yw x1)]) rfl (by simp only [yl_lit, yL_lit, yw_add, yw_sub, yw_mul, yw_neg, yl_add, yl_sub, yl_mul, cj_and, cj_or, cj_xor, cj_shl, cj_shr, cj_ushr, cj_div, cj_i2c, cj_i2b, cj_dc, ck_and, ck_or, ck_xor, ck_shl, ck_shr, ck_ushr, ck_i2l, ck_l2i, ck_cmp]) ?_
  refine xZ.jc_ne (me := xm111) hP_111 rfl (fun h1 => ?_) (fun h1 => ?_)
  · skip
    refine xZ.adv (me := xm111) hP_111 1 (pc' := 12) (lv' := [(3, .int (yw x1)), (0, .ref v0), (1, .int (yw v1)), (2, .int (yw v2))]) (st' := [.ref v0]) rfl ?_
    refine xZ.k_gJ (me := xm111) hP_111 rfl (fun x2 => ?_)
    refine xZ.adv (me := xm111) hP_111 1 (pc' := 16) (lv' := [(3, .int (yw x2)), (0, .ref v0), (1, .int (yw v1)), (2, .int (yw v2))]) (st' := []) rfl ?_
    exact xZ.sub (xsc (.tail _ (.head _)) (xsc (.tail _ (.tail _ (.head _))) (xsc (.tail _ (.tail _ (.tail _ (.head _)))) (xsc (.head _) xsn)))) (show ([3, 0, 1, 2] : List Nat).Nodup from by decide) (k_f_Series_except_16 O f d v0 v1 v2 x2 M1)
  · skip
    exact xZ.sub (xsc (.tail _ (.head _)) (xsc (.tail _ (.tail _ (.head _))) (xsc (.tail _ (.tail _ (.tail _ (.head _)))) (xsc (.head _) xsn)))) (show ([3, 0, 1, 2] : List Nat).Nodup from by decide) (k_f_Series_except_16 O f d v0 v1 v2 x1 M1)
def f_Calendarhall_leaveOut (O : Nat → Option va_E) (f : Nat) (v0 : Nat) (v1 : Int) (v2 : Int) (M : xM) : Option (Int × xM) :=
  (isO O M v0 12).bind fun _ =>
  xcl (f_Calendarhall_seriesNumbered O f v0 v1 M) fun x1 M1 =>
  (gR O M1 x1 10 6).bind fun x2 =>
  (isO O M1 x2 9).bind fun _ =>
  xcl (f_Rule_isDay O f x2 v2 M1) fun x3 M2 =>
  if yw x3 = yw 0 then (
    none
  ) else
  (isO O M2 x1 10).bind fun _ =>
  xcl (f_Series_hasPlaceFor O f x1 v2 M2) fun x4 M3 =>
  if yw x4 = yw 0 then (
    none
  ) else
  (isO O M3 v0 12).bind fun _ =>
  xcl (f_Calendarhall_saveForUndo O f v0 M3) fun _ M4 =>
  (isO O M4 x1 10).bind fun _ =>
  xcl (f_Series_except O f x1 v2 (-1) M4) fun _ M5 =>
  (gJ O M5 x1 10 7).bind fun x7 =>
  some (x7, M5)
set_option maxRecDepth 20000 in
theorem k_f_Calendarhall_leaveOut (O : Nat → Option va_E) (f d : Nat) (v0 : Nat) (v1 : Int) (v2 : Int) (M : xM) : xZ oJ O (d + 5) 109 0 [(0, .ref v0), (1, .int (yw v1)), (2, .int (yw v2))] [] M (f_Calendarhall_leaveOut O f v0 v1 v2 M) := by
  unfold f_Calendarhall_leaveOut
  refine xZ.adv (me := xm109) hP_109 2 (pc' := 2) (lv' := [(0, .ref v0), (1, .int (yw v1)), (2, .int (yw v2))]) (st' := [.int (yw v1), .ref v0]) rfl ?_
  refine xZ.callv (κ := oR) (av := [.int (yw v1)]) (rest := []) (st' := fun x1 => [.ref x1]) (k0 := v0) (me := xm109) hP_109 rfl (Or.inl rfl) ⟨rfl, by decide⟩ rfl rfl (Nat.le_of_ble_eq_true rfl) (by decide) hP_79 (Nat.le_of_ble_eq_true rfl) (fun _ => rfl) (k_f_Calendarhall_seriesNumbered O f (d + 3) v0 v1 M) (fun x1 M1 => ?_)
  refine xZ.adv (me := xm109) hP_109 2 (pc' := 7) (lv' := [(3, .ref x1), (0, .ref v0), (1, .int (yw v1)), (2, .int (yw v2))]) (st' := [.ref x1]) rfl ?_
  refine xZ.k_gR (me := xm109) hP_109 rfl (fun x2 => ?_)
  refine xZ.adv (me := xm109) hP_109 1 (pc' := 11) (lv' := [(3, .ref x1), (0, .ref v0), (1, .int (yw v1)), (2, .int (yw v2))]) (st' := [.int (yw v2), .ref x2]) rfl ?_
  refine xZ.callv (κ := oJ) (av := [.int (yw v2)]) (rest := []) (st' := fun x3 => [.int (yw x3)]) (k0 := x2) (me := xm109) hP_109 rfl (Or.inl rfl) ⟨rfl, by decide⟩ rfl rfl (Nat.le_of_ble_eq_true rfl) (by decide) hP_99 (Nat.le_of_ble_eq_true rfl) (fun _ => rfl) (k_f_Rule_isDay O f (d + 1) x2 v2 M1) (fun x3 M2 => ?_)
  refine xZ.jf_ne (me := xm109) hP_109 rfl (fun h1 => ?_) (fun h1 => ?_)
  · skip
    exact xZ.no
  · skip
    refine xZ.adv (me := xm109) hP_109 2 (pc' := 27) (lv' := [(3, .ref x1), (0, .ref v0), (1, .int (yw v1)), (2, .int (yw v2))]) (st' := [.int (yw v2), .ref x1]) rfl ?_
    refine xZ.callv (κ := oJ) (av := [.int (yw v2)]) (rest := []) (st' := fun x4 => [.int (yw x4)]) (k0 := x1) (me := xm109) hP_109 rfl (Or.inl rfl) ⟨rfl, by decide⟩ rfl rfl (Nat.le_of_ble_eq_true rfl) (by decide) hP_110 (Nat.le_of_ble_eq_true rfl) (fun _ => rfl) (k_f_Series_hasPlaceFor O f (d + 3) x1 v2 M2) (fun x4 M3 => ?_)
    refine xZ.jf_ne (me := xm109) hP_109 rfl (fun h2 => ?_) (fun h2 => ?_)
    · skip
      exact xZ.no
    · skip
      refine xZ.adv (me := xm109) hP_109 1 (pc' := 42) (lv' := [(3, .ref x1), (0, .ref v0), (1, .int (yw v1)), (2, .int (yw v2))]) (st' := [.ref v0]) rfl ?_
      refine xZ.callv (κ := oU) (av := []) (rest := []) (st' := fun _ => []) (k0 := v0) (me := xm109) hP_109 rfl (Or.inl rfl) ⟨rfl, by decide⟩ rfl rfl (Nat.le_of_ble_eq_true rfl) (by decide) hP_23 (Nat.le_of_ble_eq_true rfl) (fun _ => rfl) (k_f_Calendarhall_saveForUndo O f (d + 0) v0 M3) (fun _ M4 => ?_)
      refine xZ.adv (me := xm109) hP_109 3 (pc' := 48) (lv' := [(3, .ref x1), (0, .ref v0), (1, .int (yw v1)), (2, .int (yw v2))]) (st' := [.int (-1 : Int32), .int (yw v2), .ref x1]) rfl ?_
      refine xZ.eqs (lv2 := [(3, .ref x1), (0, .ref v0), (1, .int (yw v1)), (2, .int (yw v2))]) (st2 := [.int (yw (-1)), .int (yw v2), .ref x1]) rfl (by simp only [yl_lit, yL_lit, yw_add, yw_sub, yw_mul, yw_neg, yl_add, yl_sub, yl_mul, cj_and, cj_or, cj_xor, cj_shl, cj_shr, cj_ushr, cj_div, cj_i2c, cj_i2b, cj_dc, ck_and, ck_or, ck_xor, ck_shl, ck_shr, ck_ushr, ck_i2l, ck_l2i, ck_cmp]) ?_
      refine xZ.callv (κ := oU) (av := [.int (yw v2), .int (yw (-1))]) (rest := []) (st' := fun _ => []) (k0 := x1) (me := xm109) hP_109 rfl (Or.inl rfl) ⟨rfl, by decide⟩ rfl rfl (Nat.le_of_ble_eq_true rfl) (by decide) hP_111 (Nat.le_of_ble_eq_true rfl) (fun _ => rfl) (k_f_Series_except O f (d + 3) x1 v2 (-1) M4) (fun _ M5 => ?_)
      refine xZ.adv (me := xm109) hP_109 1 (pc' := 52) (lv' := [(3, .ref x1), (0, .ref v0), (1, .int (yw v1)), (2, .int (yw v2))]) (st' := [.ref x1]) rfl ?_
      refine xZ.k_gJ (me := xm109) hP_109 rfl (fun x7 => ?_)
      exact xZ.jreti (me := xm109) hP_109 rfl rfl
def f_Calendarhall_move (O : Nat → Option va_E) (f : Nat) (v0 : Nat) (v1 : Int) (v2 : Int) (v3 : Int) (v4 : Int) (M : xM) : Option (Int × xM) :=
  (isO O M v0 12).bind fun _ =>
  xcl (f_Calendarhall_seriesNumbered O f v0 v1 M) fun x1 M1 =>
  xcl (f_Calendarhall_needDay O f v3 M1) fun _ M2 =>
  xcl (f_Calendarhall_needRange O f v4 0 1439 M2) fun _ M3 =>
  (gR O M3 x1 10 6).bind fun x4 =>
  (isO O M3 x4 9).bind fun _ =>
  xcl (f_Rule_isDay O f x4 v2 M3) fun x5 M4 =>
  if yw x5 = yw 0 then (
    none
  ) else
  (isO O M4 x1 10).bind fun _ =>
  xcl (f_Series_hasPlaceFor O f x1 v2 M4) fun x6 M5 =>
  if yw x6 = yw 0 then (
    none
  ) else
  (isO O M5 v0 12).bind fun _ =>
  xcl (f_Calendarhall_saveForUndo O f v0 M5) fun _ M6 =>
  (isO O M6 x1 10).bind fun _ =>
  xcl (f_Series_except O f x1 v2 ((v3 * 1440) + v4) M6) fun _ M7 =>
  (gR O M7 v0 12 0).bind fun x9 =>
  (isO O M7 x9 4).bind fun _ =>
  xcl (f_Hall_zoneOf O f x9 x1 M7) fun x10 M8 =>
  (isO O M8 x10 11).bind fun _ =>
  xcl (f_Zone_commonOf O f x10 ((v3 * 1440) + v4) M8) fun x11 M9 =>
  some (x11, M9)
set_option maxRecDepth 20000 in
theorem k_f_Calendarhall_move (O : Nat → Option va_E) (f d : Nat) (v0 : Nat) (v1 : Int) (v2 : Int) (v3 : Int) (v4 : Int) (M : xM) : xZ oJ O (d + 5) 112 0 [(0, .ref v0), (1, .int (yw v1)), (2, .int (yw v2)), (3, .int (yw v3)), (4, .int (yw v4))] [] M (f_Calendarhall_move O f v0 v1 v2 v3 v4 M) := by
  unfold f_Calendarhall_move
  refine xZ.adv (me := xm112) hP_112 2 (pc' := 2) (lv' := [(0, .ref v0), (1, .int (yw v1)), (2, .int (yw v2)), (3, .int (yw v3)), (4, .int (yw v4))]) (st' := [.int (yw v1), .ref v0]) rfl ?_
  refine xZ.callv (κ := oR) (av := [.int (yw v1)]) (rest := []) (st' := fun x1 => [.ref x1]) (k0 := v0) (me := xm112) hP_112 rfl (Or.inl rfl) ⟨rfl, by decide⟩ rfl rfl (Nat.le_of_ble_eq_true rfl) (by decide) hP_79 (Nat.le_of_ble_eq_true rfl) (fun _ => rfl) (k_f_Calendarhall_seriesNumbered O f (d + 3) v0 v1 M) (fun x1 M1 => ?_)
  refine xZ.adv (me := xm112) hP_112 2 (pc' := 8) (lv' := [(5, .ref x1), (0, .ref v0), (1, .int (yw v1)), (2, .int (yw v2)), (3, .int (yw v3)), (4, .int (yw v4))]) (st' := [.int (yw v3)]) rfl ?_
  refine xZ.calls (κ := oU) (av := [.int (yw v3)]) (rest := []) (st' := fun _ => []) (me := xm112) hP_112 rfl rfl rfl (Nat.le_of_ble_eq_true rfl) (by decide) hP_37 (Nat.le_of_ble_eq_true rfl) (fun _ => rfl) (k_f_Calendarhall_needDay O f (d + 4) v3 M1) (fun _ M2 => ?_)
  refine xZ.adv (me := xm112) hP_112 3 (pc' := 17) (lv' := [(5, .ref x1), (0, .ref v0), (1, .int (yw v1)), (2, .int (yw v2)), (3, .int (yw v3)), (4, .int (yw v4))]) (st' := [.int (1439 : Int32), .int (0 : Int32), .int (yw v4)]) rfl ?_
  refine xZ.eqs (lv2 := [(5, .ref x1), (0, .ref v0), (1, .int (yw v1)), (2, .int (yw v2)), (3, .int (yw v3)), (4, .int (yw v4))]) (st2 := [.int (yw 1439), .int (yw 0), .int (yw v4)]) rfl (by simp only [yl_lit, yL_lit, yw_add, yw_sub, yw_mul, yw_neg, yl_add, yl_sub, yl_mul, cj_and, cj_or, cj_xor, cj_shl, cj_shr, cj_ushr, cj_div, cj_i2c, cj_i2b, cj_dc, ck_and, ck_or, ck_xor, ck_shl, ck_shr, ck_ushr, ck_i2l, ck_l2i, ck_cmp]) ?_
  refine xZ.calls (κ := oU) (av := [.int (yw v4), .int (yw 0), .int (yw 1439)]) (rest := []) (st' := fun _ => []) (me := xm112) hP_112 rfl rfl rfl (Nat.le_of_ble_eq_true rfl) (by decide) hP_22 (Nat.le_of_ble_eq_true rfl) (fun _ => rfl) (k_f_Calendarhall_needRange O f (d + 4) v4 0 1439 M2) (fun _ M3 => ?_)
  refine xZ.adv (me := xm112) hP_112 1 (pc' := 22) (lv' := [(5, .ref x1), (0, .ref v0), (1, .int (yw v1)), (2, .int (yw v2)), (3, .int (yw v3)), (4, .int (yw v4))]) (st' := [.ref x1]) rfl ?_
  refine xZ.k_gR (me := xm112) hP_112 rfl (fun x4 => ?_)
  refine xZ.adv (me := xm112) hP_112 1 (pc' := 26) (lv' := [(5, .ref x1), (0, .ref v0), (1, .int (yw v1)), (2, .int (yw v2)), (3, .int (yw v3)), (4, .int (yw v4))]) (st' := [.int (yw v2), .ref x4]) rfl ?_
  refine xZ.callv (κ := oJ) (av := [.int (yw v2)]) (rest := []) (st' := fun x5 => [.int (yw x5)]) (k0 := x4) (me := xm112) hP_112 rfl (Or.inl rfl) ⟨rfl, by decide⟩ rfl rfl (Nat.le_of_ble_eq_true rfl) (by decide) hP_99 (Nat.le_of_ble_eq_true rfl) (fun _ => rfl) (k_f_Rule_isDay O f (d + 1) x4 v2 M3) (fun x5 M4 => ?_)
  refine xZ.jf_ne (me := xm112) hP_112 rfl (fun h1 => ?_) (fun h1 => ?_)
  · skip
    exact xZ.no
  · skip
    refine xZ.adv (me := xm112) hP_112 2 (pc' := 43) (lv' := [(5, .ref x1), (0, .ref v0), (1, .int (yw v1)), (2, .int (yw v2)), (3, .int (yw v3)), (4, .int (yw v4))]) (st' := [.int (yw v2), .ref x1]) rfl ?_
    refine xZ.callv (κ := oJ) (av := [.int (yw v2)]) (rest := []) (st' := fun x6 => [.int (yw x6)]) (k0 := x1) (me := xm112) hP_112 rfl (Or.inl rfl) ⟨rfl, by decide⟩ rfl rfl (Nat.le_of_ble_eq_true rfl) (by decide) hP_110 (Nat.le_of_ble_eq_true rfl) (fun _ => rfl) (k_f_Series_hasPlaceFor O f (d + 3) x1 v2 M4) (fun x6 M5 => ?_)
    refine xZ.jf_ne (me := xm112) hP_112 rfl (fun h2 => ?_) (fun h2 => ?_)
    · skip
      exact xZ.no
    · skip
      refine xZ.adv (me := xm112) hP_112 1 (pc' := 58) (lv' := [(5, .ref x1), (0, .ref v0), (1, .int (yw v1)), (2, .int (yw v2)), (3, .int (yw v3)), (4, .int (yw v4))]) (st' := [.ref v0]) rfl ?_
      refine xZ.callv (κ := oU) (av := []) (rest := []) (st' := fun _ => []) (k0 := v0) (me := xm112) hP_112 rfl (Or.inl rfl) ⟨rfl, by decide⟩ rfl rfl (Nat.le_of_ble_eq_true rfl) (by decide) hP_23 (Nat.le_of_ble_eq_true rfl) (fun _ => rfl) (k_f_Calendarhall_saveForUndo O f (d + 0) v0 M5) (fun _ M6 => ?_)
      refine xZ.adv (me := xm112) hP_112 9 (pc' := 76) (lv' := [(6, .int (((yw v3) * (1440 : Int32)) + (yw v4))), (5, .ref x1), (0, .ref v0), (1, .int (yw v1)), (2, .int (yw v2)), (3, .int (yw v3)), (4, .int (yw v4))]) (st' := [.int (((yw v3) * (1440 : Int32)) + (yw v4)), .int (yw v2), .ref x1]) rfl ?_
      refine xZ.eqs (lv2 := [(6, .int (yw ((v3 * 1440) + v4))), (5, .ref x1), (0, .ref v0), (1, .int (yw v1)), (2, .int (yw v2)), (3, .int (yw v3)), (4, .int (yw v4))]) (st2 := [.int (yw ((v3 * 1440) + v4)), .int (yw v2), .ref x1]) (by simp only [yl_lit, yL_lit, yw_add, yw_sub, yw_mul, yw_neg, yl_add, yl_sub, yl_mul, cj_and, cj_or, cj_xor, cj_shl, cj_shr, cj_ushr, cj_div, cj_i2c, cj_i2b, cj_dc, ck_and, ck_or, ck_xor, ck_shl, ck_shr, ck_ushr, ck_i2l, ck_l2i, ck_cmp]) (by simp only [yl_lit, yL_lit, yw_add, yw_sub, yw_mul, yw_neg, yl_add, yl_sub, yl_mul, cj_and, cj_or, cj_xor, cj_shl, cj_shr, cj_ushr, cj_div, cj_i2c, cj_i2b, cj_dc, ck_and, ck_or, ck_xor, ck_shl, ck_shr, ck_ushr, ck_i2l, ck_l2i, ck_cmp]) ?_
      refine xZ.callv (κ := oU) (av := [.int (yw v2), .int (yw ((v3 * 1440) + v4))]) (rest := []) (st' := fun _ => []) (k0 := x1) (me := xm112) hP_112 rfl (Or.inl rfl) ⟨rfl, by decide⟩ rfl rfl (Nat.le_of_ble_eq_true rfl) (by decide) hP_111 (Nat.le_of_ble_eq_true rfl) (fun _ => rfl) (k_f_Series_except O f (d + 3) x1 v2 ((v3 * 1440) + v4) M6) (fun _ M7 => ?_)
      refine xZ.adv (me := xm112) hP_112 1 (pc' := 80) (lv' := [(6, .int (yw ((v3 * 1440) + v4))), (5, .ref x1), (0, .ref v0), (1, .int (yw v1)), (2, .int (yw v2)), (3, .int (yw v3)), (4, .int (yw v4))]) (st' := [.ref v0]) rfl ?_
      refine xZ.k_gR (me := xm112) hP_112 rfl (fun x9 => ?_)
      refine xZ.adv (me := xm112) hP_112 1 (pc' := 85) (lv' := [(6, .int (yw ((v3 * 1440) + v4))), (5, .ref x1), (0, .ref v0), (1, .int (yw v1)), (2, .int (yw v2)), (3, .int (yw v3)), (4, .int (yw v4))]) (st' := [.ref x1, .ref x9]) rfl ?_
      refine xZ.callv (κ := oR) (av := [.ref x1]) (rest := []) (st' := fun x10 => [.ref x10]) (k0 := x9) (me := xm112) hP_112 rfl (Or.inl rfl) ⟨rfl, by decide⟩ rfl rfl (Nat.le_of_ble_eq_true rfl) (by decide) hP_102 (Nat.le_of_ble_eq_true rfl) (fun _ => rfl) (k_f_Hall_zoneOf O f (d + 3) x9 x1 M7) (fun x10 M8 => ?_)
      refine xZ.adv (me := xm112) hP_112 1 (pc' := 90) (lv' := [(6, .int (yw ((v3 * 1440) + v4))), (5, .ref x1), (0, .ref v0), (1, .int (yw v1)), (2, .int (yw v2)), (3, .int (yw v3)), (4, .int (yw v4))]) (st' := [.int (yw ((v3 * 1440) + v4)), .ref x10]) rfl ?_
      refine xZ.callv (κ := oJ) (av := [.int (yw ((v3 * 1440) + v4))]) (rest := []) (st' := fun x11 => [.int (yw x11)]) (k0 := x10) (me := xm112) hP_112 rfl (Or.inl rfl) ⟨rfl, by decide⟩ rfl rfl (Nat.le_of_ble_eq_true rfl) (by decide) hP_105 (Nat.le_of_ble_eq_true rfl) (fun _ => rfl) (k_f_Zone_commonOf O f (d + 1) x10 ((v3 * 1440) + v4) M8) (fun x11 M9 => ?_)
      exact xZ.jreti (me := xm112) hP_112 rfl rfl
def f_Calendarhall_needMinute (O : Nat → Option va_E) (f : Nat) (v0 : Int) (M : xM) : Option (Unit × xM) :=
  if yw v0 < yw 14400 then (
    none
  ) else
  if yw v0 ≤ yw 210240000 then (
    some ((), M)
  ) else
  none
set_option maxRecDepth 20000 in
theorem k_f_Calendarhall_needMinute (O : Nat → Option va_E) (f d : Nat) (v0 : Int) (M : xM) : xZ oU O (d + 0) 115 0 [(0, .int (yw v0))] [] M (f_Calendarhall_needMinute O f v0 M) := by
  unfold f_Calendarhall_needMinute
  refine xZ.adv (me := xm115) hP_115 2 (pc' := 4) (lv' := [(0, .int (yw v0))]) (st' := [.int (14400 : Int32), .int (yw v0)]) rfl ?_
  refine xZ.eqs (lv2 := [(0, .int (yw v0))]) (st2 := [.int (yw 14400), .int (yw v0)]) rfl (by simp only [yl_lit, yL_lit, yw_add, yw_sub, yw_mul, yw_neg, yl_add, yl_sub, yl_mul, cj_and, cj_or, cj_xor, cj_shl, cj_shr, cj_ushr, cj_div, cj_i2c, cj_i2b, cj_dc, ck_and, ck_or, ck_xor, ck_shl, ck_shr, ck_ushr, ck_i2l, ck_l2i, ck_cmp]) ?_
  refine xZ.jc_lt (me := xm115) hP_115 rfl (fun h1 => ?_) (fun h1 => ?_)
  · skip
    exact xZ.no
  · skip
    refine xZ.adv (me := xm115) hP_115 2 (pc' := 11) (lv' := [(0, .int (yw v0))]) (st' := [.int (210240000 : Int32), .int (yw v0)]) rfl ?_
    refine xZ.eqs (lv2 := [(0, .int (yw v0))]) (st2 := [.int (yw 210240000), .int (yw v0)]) rfl (by simp only [yl_lit, yL_lit, yw_add, yw_sub, yw_mul, yw_neg, yl_add, yl_sub, yl_mul, cj_and, cj_or, cj_xor, cj_shl, cj_shr, cj_ushr, cj_div, cj_i2c, cj_i2b, cj_dc, ck_and, ck_or, ck_xor, ck_shl, ck_shr, ck_ushr, ck_i2l, ck_l2i, ck_cmp]) ?_
    refine xZ.jc_le (me := xm115) hP_115 rfl (fun h2 => ?_) (fun h2 => ?_)
    · skip
      exact xZ.retu (me := xm115) hP_115 rfl rfl
    · skip
      exact xZ.no
def f_Calendarhall_needPiece (O : Nat → Option va_E) (f : Nat) (v0 : Int) (v1 : Int) (v2 : Int) (M : xM) : Option (Unit × xM) :=
  xcl (f_Calendarhall_needMinute O f v0 M) fun _ M1 =>
  xcl (f_Calendarhall_needMinute O f v1 M1) fun _ M2 =>
  if yw v1 ≤ yw v0 then (
    none
  ) else
  if yw (v1 - v0) ≤ yw v2 then (
    some ((), M2)
  ) else
  none
set_option maxRecDepth 20000 in
theorem k_f_Calendarhall_needPiece (O : Nat → Option va_E) (f d : Nat) (v0 : Int) (v1 : Int) (v2 : Int) (M : xM) : xZ oU O (d + 1) 114 0 [(0, .int (yw v0)), (1, .int (yw v1)), (2, .int (yw v2))] [] M (f_Calendarhall_needPiece O f v0 v1 v2 M) := by
  unfold f_Calendarhall_needPiece
  refine xZ.adv (me := xm114) hP_114 1 (pc' := 1) (lv' := [(0, .int (yw v0)), (1, .int (yw v1)), (2, .int (yw v2))]) (st' := [.int (yw v0)]) rfl ?_
  refine xZ.calls (κ := oU) (av := [.int (yw v0)]) (rest := []) (st' := fun _ => []) (me := xm114) hP_114 rfl rfl rfl (Nat.le_of_ble_eq_true rfl) (by decide) hP_115 (Nat.le_of_ble_eq_true rfl) (fun _ => rfl) (k_f_Calendarhall_needMinute O f (d + 0) v0 M) (fun _ M1 => ?_)
  refine xZ.adv (me := xm114) hP_114 1 (pc' := 5) (lv' := [(0, .int (yw v0)), (1, .int (yw v1)), (2, .int (yw v2))]) (st' := [.int (yw v1)]) rfl ?_
  refine xZ.calls (κ := oU) (av := [.int (yw v1)]) (rest := []) (st' := fun _ => []) (me := xm114) hP_114 rfl rfl rfl (Nat.le_of_ble_eq_true rfl) (by decide) hP_115 (Nat.le_of_ble_eq_true rfl) (fun _ => rfl) (k_f_Calendarhall_needMinute O f (d + 0) v1 M1) (fun _ M2 => ?_)
  refine xZ.adv (me := xm114) hP_114 2 (pc' := 10) (lv' := [(0, .int (yw v0)), (1, .int (yw v1)), (2, .int (yw v2))]) (st' := [.int (yw v0), .int (yw v1)]) rfl ?_
  refine xZ.jc_le (me := xm114) hP_114 rfl (fun h1 => ?_) (fun h1 => ?_)
  · skip
    exact xZ.no
  · skip
    refine xZ.adv (me := xm114) hP_114 4 (pc' := 17) (lv' := [(0, .int (yw v0)), (1, .int (yw v1)), (2, .int (yw v2))]) (st' := [.int (yw v2), .int ((yw v1) - (yw v0))]) rfl ?_
    refine xZ.eqs (lv2 := [(0, .int (yw v0)), (1, .int (yw v1)), (2, .int (yw v2))]) (st2 := [.int (yw v2), .int (yw (v1 - v0))]) rfl (by simp only [yl_lit, yL_lit, yw_add, yw_sub, yw_mul, yw_neg, yl_add, yl_sub, yl_mul, cj_and, cj_or, cj_xor, cj_shl, cj_shr, cj_ushr, cj_div, cj_i2c, cj_i2b, cj_dc, ck_and, ck_or, ck_xor, ck_shl, ck_shr, ck_ushr, ck_i2l, ck_l2i, ck_cmp]) ?_
    refine xZ.jc_le (me := xm114) hP_114 rfl (fun h2 => ?_) (fun h2 => ?_)
    · skip
      exact xZ.retu (me := xm114) hP_114 rfl rfl
    · skip
      exact xZ.no
def f_Series_earliestDay (O : Nat → Option va_E) (f : Nat) (v0 : Nat) (v1 : Nat) (v2 : Int) (M : xM) : Option (Int × xM) :=
  (gJ O M v1 11 0).bind fun x1 =>
  (gJ O M v0 10 2).bind fun x2 =>
  some ((jdiv ((v2 + x1) - x2) 1440), M)
set_option maxRecDepth 20000 in
theorem k_f_Series_earliestDay (O : Nat → Option va_E) (f d : Nat) (v0 : Nat) (v1 : Nat) (v2 : Int) (M : xM) : xZ oJ O (d + 0) 118 0 [(0, .ref v0), (1, .ref v1), (2, .int (yw v2))] [] M (f_Series_earliestDay O f v0 v1 v2 M) := by
  unfold f_Series_earliestDay
  refine xZ.adv (me := xm118) hP_118 2 (pc' := 2) (lv' := [(0, .ref v0), (1, .ref v1), (2, .int (yw v2))]) (st' := [.ref v1, .int (yw v2)]) rfl ?_
  refine xZ.k_gJ (me := xm118) hP_118 rfl (fun x1 => ?_)
  refine xZ.adv (me := xm118) hP_118 2 (pc' := 7) (lv' := [(0, .ref v0), (1, .ref v1), (2, .int (yw v2))]) (st' := [.ref v0, .int ((yw v2) + (yw x1))]) rfl ?_
  refine xZ.eqs (lv2 := [(0, .ref v0), (1, .ref v1), (2, .int (yw v2))]) (st2 := [.ref v0, .int (yw (v2 + x1))]) rfl (by simp only [yl_lit, yL_lit, yw_add, yw_sub, yw_mul, yw_neg, yl_add, yl_sub, yl_mul, cj_and, cj_or, cj_xor, cj_shl, cj_shr, cj_ushr, cj_div, cj_i2c, cj_i2b, cj_dc, ck_and, ck_or, ck_xor, ck_shl, ck_shr, ck_ushr, ck_i2l, ck_l2i, ck_cmp]) ?_
  refine xZ.k_gJ (me := xm118) hP_118 rfl (fun x2 => ?_)
  refine xZ.adv (me := xm118) hP_118 3 (pc' := 15) (lv' := [(0, .ref v0), (1, .ref v1), (2, .int (yw v2))]) (st' := [.int (((yw (v2 + x1)) - (yw x2)) / (1440 : Int32))]) rfl ?_
  refine xZ.eqs (lv2 := [(0, .ref v0), (1, .ref v1), (2, .int (yw v2))]) (st2 := [.int (yw (jdiv ((v2 + x1) - x2) 1440))]) rfl (by simp only [yl_lit, yL_lit, yw_add, yw_sub, yw_mul, yw_neg, yl_add, yl_sub, yl_mul, cj_and, cj_or, cj_xor, cj_shl, cj_shr, cj_ushr, cj_div, cj_i2c, cj_i2b, cj_dc, ck_and, ck_or, ck_xor, ck_shl, ck_shr, ck_ushr, ck_i2l, ck_l2i, ck_cmp]) ?_
  exact xZ.jreti (me := xm118) hP_118 rfl rfl
def f_Series_firstDayFrom_10 (O : Nat → Option va_E) (f : Nat) : Nat → Nat → Nat → Int → Int → Int → xM → Option (Int × xM)
  | 0, _, _, _, _, _, _ => none
  | n + 1, v0, v1, v2, v3, v4, M =>
    if yw 2 ≤ yw v4 then (
      some (v3, M)
    ) else
    (gJ O M v0 10 2).bind fun x1 =>
    (isO O M v1 11).bind fun _ =>
    xcl (f_Zone_commonOf O f v1 ((v3 * 1440) + x1) M) fun x2 M1 =>
    if yw v2 ≤ yw x2 then (
      some (v3, M1)
    ) else
    f_Series_firstDayFrom_10 O f n v0 v1 v2 (v3 + 1) (v4 + 1) M1
set_option maxRecDepth 20000 in
theorem k_f_Series_firstDayFrom_10 (O : Nat → Option va_E) (f d : Nat) : ∀ (n : Nat) (v0 : Nat) (v1 : Nat) (v2 : Int) (v3 : Int) (v4 : Int) (M : xM), xZ oJ O (d + 4) 117 10 [(0, .ref v0), (1, .ref v1), (2, .int (yw v2)), (3, .int (yw v3)), (4, .int (yw v4))] [] M (f_Series_firstDayFrom_10 O f n v0 v1 v2 v3 v4 M) := by
  intro n
  induction n with
  | zero =>
    intro v0 v1 v2 v3 v4 M
    exact xZ.no
  | succ n ih =>
    intro v0 v1 v2 v3 v4 M
    unfold f_Series_firstDayFrom_10
    refine xZ.adv (me := xm117) hP_117 2 (pc' := 13) (lv' := [(0, .ref v0), (1, .ref v1), (2, .int (yw v2)), (3, .int (yw v3)), (4, .int (yw v4))]) (st' := [.int (2 : Int32), .int (yw v4)]) rfl ?_
    refine xZ.eqs (lv2 := [(0, .ref v0), (1, .ref v1), (2, .int (yw v2)), (3, .int (yw v3)), (4, .int (yw v4))]) (st2 := [.int (yw 2), .int (yw v4)]) rfl (by simp only [yl_lit, yL_lit, yw_add, yw_sub, yw_mul, yw_neg, yl_add, yl_sub, yl_mul, cj_and, cj_or, cj_xor, cj_shl, cj_shr, cj_ushr, cj_div, cj_i2c, cj_i2b, cj_dc, ck_and, ck_or, ck_xor, ck_shl, ck_shr, ck_ushr, ck_i2l, ck_l2i, ck_cmp]) ?_
    refine xZ.jc_ge (me := xm117) hP_117 rfl (fun h1 => ?_) (fun h1 => ?_)
    · skip
      refine xZ.adv (me := xm117) hP_117 1 (pc' := 44) (lv' := [(0, .ref v0), (1, .ref v1), (2, .int (yw v2)), (3, .int (yw v3)), (4, .int (yw v4))]) (st' := [.int (yw v3)]) rfl ?_
      exact xZ.jreti (me := xm117) hP_117 rfl rfl
    · skip
      refine xZ.adv (me := xm117) hP_117 5 (pc' := 23) (lv' := [(0, .ref v0), (1, .ref v1), (2, .int (yw v2)), (3, .int (yw v3)), (4, .int (yw v4))]) (st' := [.ref v0, .int ((yw v3) * (1440 : Int32)), .ref v1]) rfl ?_
      refine xZ.eqs (lv2 := [(0, .ref v0), (1, .ref v1), (2, .int (yw v2)), (3, .int (yw v3)), (4, .int (yw v4))]) (st2 := [.ref v0, .int (yw (v3 * 1440)), .ref v1]) rfl (by simp only [yl_lit, yL_lit, yw_add, yw_sub, yw_mul, yw_neg, yl_add, yl_sub, yl_mul, cj_and, cj_or, cj_xor, cj_shl, cj_shr, cj_ushr, cj_div, cj_i2c, cj_i2b, cj_dc, ck_and, ck_or, ck_xor, ck_shl, ck_shr, ck_ushr, ck_i2l, ck_l2i, ck_cmp]) ?_
      refine xZ.k_gJ (me := xm117) hP_117 rfl (fun x1 => ?_)
      refine xZ.adv (me := xm117) hP_117 1 (pc' := 27) (lv' := [(0, .ref v0), (1, .ref v1), (2, .int (yw v2)), (3, .int (yw v3)), (4, .int (yw v4))]) (st' := [.int ((yw (v3 * 1440)) + (yw x1)), .ref v1]) rfl ?_
      refine xZ.eqs (lv2 := [(0, .ref v0), (1, .ref v1), (2, .int (yw v2)), (3, .int (yw v3)), (4, .int (yw v4))]) (st2 := [.int (yw ((v3 * 1440) + x1)), .ref v1]) rfl (by simp only [yl_lit, yL_lit, yw_add, yw_sub, yw_mul, yw_neg, yl_add, yl_sub, yl_mul, cj_and, cj_or, cj_xor, cj_shl, cj_shr, cj_ushr, cj_div, cj_i2c, cj_i2b, cj_dc, ck_and, ck_or, ck_xor, ck_shl, ck_shr, ck_ushr, ck_i2l, ck_l2i, ck_cmp]) ?_
      refine xZ.callv (κ := oJ) (av := [.int (yw ((v3 * 1440) + x1))]) (rest := []) (st' := fun x2 => [.int (yw x2)]) (k0 := v1) (me := xm117) hP_117 rfl (Or.inl rfl) ⟨rfl, by decide⟩ rfl rfl (Nat.le_of_ble_eq_true rfl) (by decide) hP_105 (Nat.le_of_ble_eq_true rfl) (fun _ => rfl) (k_f_Zone_commonOf O f (d + 0) v1 ((v3 * 1440) + x1) M) (fun x2 M1 => ?_)
      refine xZ.adv (me := xm117) hP_117 1 (pc' := 31) (lv' := [(0, .ref v0), (1, .ref v1), (2, .int (yw v2)), (3, .int (yw v3)), (4, .int (yw v4))]) (st' := [.int (yw v2), .int (yw x2)]) rfl ?_
      refine xZ.jc_ge (me := xm117) hP_117 rfl (fun h2 => ?_) (fun h2 => ?_)
      · skip
        refine xZ.adv (me := xm117) hP_117 1 (pc' := 44) (lv' := [(0, .ref v0), (1, .ref v1), (2, .int (yw v2)), (3, .int (yw v3)), (4, .int (yw v4))]) (st' := [.int (yw v3)]) rfl ?_
        exact xZ.jreti (me := xm117) hP_117 rfl rfl
      · skip
        refine xZ.adv (me := xm117) hP_117 3 (pc' := 10) (lv' := [(4, .int ((yw v4) + (1 : Int32))), (3, .int ((yw v3) + (1 : Int32))), (0, .ref v0), (1, .ref v1), (2, .int (yw v2))]) (st' := []) rfl ?_
        refine xZ.eqs (lv2 := [(4, .int (yw (v4 + 1))), (3, .int (yw (v3 + 1))), (0, .ref v0), (1, .ref v1), (2, .int (yw v2))]) (st2 := []) (by simp only [yl_lit, yL_lit, yw_add, yw_sub, yw_mul, yw_neg, yl_add, yl_sub, yl_mul, cj_and, cj_or, cj_xor, cj_shl, cj_shr, cj_ushr, cj_div, cj_i2c, cj_i2b, cj_dc, ck_and, ck_or, ck_xor, ck_shl, ck_shr, ck_ushr, ck_i2l, ck_l2i, ck_cmp]) rfl ?_
        exact xZ.sub (xsc (.tail _ (.tail _ (.head _))) (xsc (.tail _ (.tail _ (.tail _ (.head _)))) (xsc (.tail _ (.tail _ (.tail _ (.tail _ (.head _))))) (xsc (.tail _ (.head _)) (xsc (.head _) xsn))))) (show ([4, 3, 0, 1, 2] : List Nat).Nodup from by decide) (ih v0 v1 v2 (v3 + 1) (v4 + 1) M1)
def f_Series_firstDayFrom (O : Nat → Option va_E) (f : Nat) (v0 : Nat) (v1 : Nat) (v2 : Int) (M : xM) : Option (Int × xM) :=
  (isO O M v0 10).bind fun _ =>
  xcl (f_Series_earliestDay O f v0 v1 v2 M) fun x1 M1 =>
  f_Series_firstDayFrom_10 O f f v0 v1 v2 x1 0 M1
set_option maxRecDepth 20000 in
theorem k_f_Series_firstDayFrom (O : Nat → Option va_E) (f d : Nat) (v0 : Nat) (v1 : Nat) (v2 : Int) (M : xM) : xZ oJ O (d + 4) 117 0 [(0, .ref v0), (1, .ref v1), (2, .int (yw v2))] [] M (f_Series_firstDayFrom O f v0 v1 v2 M) := by
  unfold f_Series_firstDayFrom
  refine xZ.adv (me := xm117) hP_117 3 (pc' := 3) (lv' := [(0, .ref v0), (1, .ref v1), (2, .int (yw v2))]) (st' := [.int (yw v2), .ref v1, .ref v0]) rfl ?_
  refine xZ.callv (κ := oJ) (av := [.ref v1, .int (yw v2)]) (rest := []) (st' := fun x1 => [.int (yw x1)]) (k0 := v0) (me := xm117) hP_117 rfl (Or.inl rfl) ⟨rfl, by decide⟩ rfl rfl (Nat.le_of_ble_eq_true rfl) (by decide) hP_118 (Nat.le_of_ble_eq_true rfl) (fun _ => rfl) (k_f_Series_earliestDay O f (d + 3) v0 v1 v2 M) (fun x1 M1 => ?_)
  refine xZ.adv (me := xm117) hP_117 3 (pc' := 10) (lv' := [(4, .int (0 : Int32)), (3, .int (yw x1)), (0, .ref v0), (1, .ref v1), (2, .int (yw v2))]) (st' := []) rfl ?_
  refine xZ.eqs (lv2 := [(4, .int (yw 0)), (3, .int (yw x1)), (0, .ref v0), (1, .ref v1), (2, .int (yw v2))]) (st2 := []) (by simp only [yl_lit, yL_lit, yw_add, yw_sub, yw_mul, yw_neg, yl_add, yl_sub, yl_mul, cj_and, cj_or, cj_xor, cj_shl, cj_shr, cj_ushr, cj_div, cj_i2c, cj_i2b, cj_dc, ck_and, ck_or, ck_xor, ck_shl, ck_shr, ck_ushr, ck_i2l, ck_l2i, ck_cmp]) rfl ?_
  exact xZ.sub (xsc (.tail _ (.tail _ (.head _))) (xsc (.tail _ (.tail _ (.tail _ (.head _)))) (xsc (.tail _ (.tail _ (.tail _ (.tail _ (.head _))))) (xsc (.tail _ (.head _)) (xsc (.head _) xsn))))) (show ([4, 3, 0, 1, 2] : List Nat).Nodup from by decide) (k_f_Series_firstDayFrom_10 O f d f v0 v1 v2 x1 0 M1)
def f_Series_exceptionDay (O : Nat → Option va_E) (f : Nat) (v0 : Nat) (v1 : Int) (M : xM) : Option (Int × xM) :=
  if yw v1 < yw 0 then (
    some ((-1), M)
  ) else
  (gR O M v0 10 8).bind fun x1 =>
  (aJN O M x1).bind fun x2 =>
  if yw x2 ≤ yw v1 then (
    some ((-1), M)
  ) else
  (gR O M v0 10 8).bind fun x3 =>
  (aJ O M x3 v1).bind fun x4 =>
  some (x4, M)
set_option maxRecDepth 20000 in
theorem k_f_Series_exceptionDay (O : Nat → Option va_E) (f d : Nat) (v0 : Nat) (v1 : Int) (M : xM) : xZ oJ O (d + 0) 119 0 [(0, .ref v0), (1, .int (yw v1))] [] M (f_Series_exceptionDay O f v0 v1 M) := by
  unfold f_Series_exceptionDay
  refine xZ.adv (me := xm119) hP_119 1 (pc' := 1) (lv' := [(0, .ref v0), (1, .int (yw v1))]) (st' := [.int (yw v1)]) rfl ?_
  refine xZ.jf_lt (me := xm119) hP_119 rfl (fun h1 => ?_) (fun h1 => ?_)
  · skip
    refine xZ.adv (me := xm119) hP_119 1 (pc' := 23) (lv' := [(0, .ref v0), (1, .int (yw v1))]) (st' := [.int (-1 : Int32)]) rfl ?_
    refine xZ.eqs (lv2 := [(0, .ref v0), (1, .int (yw v1))]) (st2 := [.int (yw (-1))]) rfl (by simp only [yl_lit, yL_lit, yw_add, yw_sub, yw_mul, yw_neg, yl_add, yl_sub, yl_mul, cj_and, cj_or, cj_xor, cj_shl, cj_shr, cj_ushr, cj_div, cj_i2c, cj_i2b, cj_dc, ck_and, ck_or, ck_xor, ck_shl, ck_shr, ck_ushr, ck_i2l, ck_l2i, ck_cmp]) ?_
    exact xZ.jreti (me := xm119) hP_119 rfl rfl
  · skip
    refine xZ.adv (me := xm119) hP_119 2 (pc' := 6) (lv' := [(0, .ref v0), (1, .int (yw v1))]) (st' := [.ref v0, .int (yw v1)]) rfl ?_
    refine xZ.k_gR (me := xm119) hP_119 rfl (fun x1 => ?_)
    refine xZ.k_aJN (me := xm119) hP_119 rfl (fun x2 => ?_)
    refine xZ.jc_ge (me := xm119) hP_119 rfl (fun h2 => ?_) (fun h2 => ?_)
    · skip
      refine xZ.adv (me := xm119) hP_119 1 (pc' := 23) (lv' := [(0, .ref v0), (1, .int (yw v1))]) (st' := [.int (-1 : Int32)]) rfl ?_
      refine xZ.eqs (lv2 := [(0, .ref v0), (1, .int (yw v1))]) (st2 := [.int (yw (-1))]) rfl (by simp only [yl_lit, yL_lit, yw_add, yw_sub, yw_mul, yw_neg, yl_add, yl_sub, yl_mul, cj_and, cj_or, cj_xor, cj_shl, cj_shr, cj_ushr, cj_div, cj_i2c, cj_i2b, cj_dc, ck_and, ck_or, ck_xor, ck_shl, ck_shr, ck_ushr, ck_i2l, ck_l2i, ck_cmp]) ?_
      exact xZ.jreti (me := xm119) hP_119 rfl rfl
    · skip
      refine xZ.adv (me := xm119) hP_119 1 (pc' := 14) (lv' := [(0, .ref v0), (1, .int (yw v1))]) (st' := [.ref v0]) rfl ?_
      refine xZ.k_gR (me := xm119) hP_119 rfl (fun x3 => ?_)
      refine xZ.adv (me := xm119) hP_119 1 (pc' := 18) (lv' := [(0, .ref v0), (1, .int (yw v1))]) (st' := [.int (yw v1), .ref x3]) rfl ?_
      refine xZ.k_aJ (me := xm119) hP_119 rfl (fun x4 => ?_)
      refine xZ.adv (me := xm119) hP_119 1 (pc' := 23) (lv' := [(0, .ref v0), (1, .int (yw v1))]) (st' := [.int (yw x4)]) rfl ?_
      exact xZ.jreti (me := xm119) hP_119 rfl rfl
def f_Series_countBegins_68 (O : Nat → Option va_E) (f : Nat) (K34 : Nat → Nat → Int → Int → Int → Int → Int → Int → xM → Option (Int × xM)) (v0 : Nat) (v1 : Nat) (v2 : Int) (v3 : Int) (v4 : Int) (v5 : Int) (v6 : Int) (v7 : Int) (M : xM) : Option (Int × xM) :=
  (isO O M v0 10).bind fun _ =>
  xcl (f_Series_exceptionTo O f v0 v7 M) fun x1 M1 =>
  if yw x1 = yw (-1) then (
    K34 v0 v1 v2 v3 v4 v5 v6 (v7 + 1) M1
  ) else
  (isO O M1 v0 10).bind fun _ =>
  xcl (f_Series_exceptionTo O f v0 v7 M1) fun x2 M2 =>
  (isO O M2 v1 11).bind fun _ =>
  xcl (f_Zone_commonOf O f v1 x2 M2) fun x3 M3 =>
  if yw x3 < yw v2 then (
    K34 v0 v1 v2 v3 v4 v5 v6 (v7 + 1) M3
  ) else
  if yw v3 ≤ yw x3 then (
    K34 v0 v1 v2 v3 v4 v5 v6 (v7 + 1) M3
  ) else
  K34 v0 v1 v2 v3 v4 v5 (v6 + 1) (v7 + 1) M3
set_option maxRecDepth 20000 in
theorem k_f_Series_countBegins_68 (O : Nat → Option va_E) (f d : Nat) (K34 : Nat → Nat → Int → Int → Int → Int → Int → Int → xM → Option (Int × xM)) (hK34 : ∀ (v0 : Nat) (v1 : Nat) (v2 : Int) (v3 : Int) (v4 : Int) (v5 : Int) (v6 : Int) (v7 : Int) M, xZ oJ O (d + 5) 116 34 [(0, .ref v0), (1, .ref v1), (2, .int (yw v2)), (3, .int (yw v3)), (4, .int (yw v4)), (5, .int (yw v5)), (6, .int (yw v6)), (7, .int (yw v7))] [] M (K34 v0 v1 v2 v3 v4 v5 v6 v7 M)) (v0 : Nat) (v1 : Nat) (v2 : Int) (v3 : Int) (v4 : Int) (v5 : Int) (v6 : Int) (v7 : Int) (M : xM) : xZ oJ O (d + 5) 116 68 [(0, .ref v0), (1, .ref v1), (2, .int (yw v2)), (3, .int (yw v3)), (4, .int (yw v4)), (5, .int (yw v5)), (6, .int (yw v6)), (7, .int (yw v7))] [] M (f_Series_countBegins_68 O f K34 v0 v1 v2 v3 v4 v5 v6 v7 M) := by
  unfold f_Series_countBegins_68
  refine xZ.adv (me := xm116) hP_116 2 (pc' := 71) (lv' := [(0, .ref v0), (1, .ref v1), (2, .int (yw v2)), (3, .int (yw v3)), (4, .int (yw v4)), (5, .int (yw v5)), (6, .int (yw v6)), (7, .int (yw v7))]) (st' := [.int (yw v7), .ref v0]) rfl ?_
  refine xZ.callv (κ := oJ) (av := [.int (yw v7)]) (rest := []) (st' := fun x1 => [.int (yw x1)]) (k0 := v0) (me := xm116) hP_116 rfl (Or.inl rfl) ⟨rfl, by decide⟩ rfl rfl (Nat.le_of_ble_eq_true rfl) (by decide) hP_108 (Nat.le_of_ble_eq_true rfl) (fun _ => rfl) (k_f_Series_exceptionTo O f (d + 4) v0 v7 M) (fun x1 M1 => ?_)
  refine xZ.adv (me := xm116) hP_116 1 (pc' := 75) (lv' := [(0, .ref v0), (1, .ref v1), (2, .int (yw v2)), (3, .int (yw v3)), (4, .int (yw v4)), (5, .int (yw v5)), (6, .int (yw v6)), (7, .int (yw v7))]) (st' := [.int (-1 : Int32), .int (yw x1)]) rfl ?_
  refine xZ.eqs (lv2 := [(0, .ref v0), (1, .ref v1), (2, .int (yw v2)), (3, .int (yw v3)), (4, .int (yw v4)), (5, .int (yw v5)), (6, .int (yw v6)), (7, .int (yw v7))]) (st2 := [.int (yw (-1)), .int (yw x1)]) rfl (by simp only [yl_lit, yL_lit, yw_add, yw_sub, yw_mul, yw_neg, yl_add, yl_sub, yl_mul, cj_and, cj_or, cj_xor, cj_shl, cj_shr, cj_ushr, cj_div, cj_i2c, cj_i2b, cj_dc, ck_and, ck_or, ck_xor, ck_shl, ck_shr, ck_ushr, ck_i2l, ck_l2i, ck_cmp]) ?_
  refine xZ.jc_ne (me := xm116) hP_116 rfl (fun h1 => ?_) (fun h1 => ?_)
  · skip
    refine xZ.adv (me := xm116) hP_116 3 (pc' := 34) (lv' := [(7, .int ((yw v7) + (1 : Int32))), (0, .ref v0), (1, .ref v1), (2, .int (yw v2)), (3, .int (yw v3)), (4, .int (yw v4)), (5, .int (yw v5)), (6, .int (yw v6))]) (st' := []) rfl ?_
    refine xZ.eqs (lv2 := [(7, .int (yw (v7 + 1))), (0, .ref v0), (1, .ref v1), (2, .int (yw v2)), (3, .int (yw v3)), (4, .int (yw v4)), (5, .int (yw v5)), (6, .int (yw v6))]) (st2 := []) (by simp only [yl_lit, yL_lit, yw_add, yw_sub, yw_mul, yw_neg, yl_add, yl_sub, yl_mul, cj_and, cj_or, cj_xor, cj_shl, cj_shr, cj_ushr, cj_div, cj_i2c, cj_i2b, cj_dc, ck_and, ck_or, ck_xor, ck_shl, ck_shr, ck_ushr, ck_i2l, ck_l2i, ck_cmp]) rfl ?_
    exact xZ.sub (xsc (.tail _ (.head _)) (xsc (.tail _ (.tail _ (.head _))) (xsc (.tail _ (.tail _ (.tail _ (.head _)))) (xsc (.tail _ (.tail _ (.tail _ (.tail _ (.head _))))) (xsc (.tail _ (.tail _ (.tail _ (.tail _ (.tail _ (.head _)))))) (xsc (.tail _ (.tail _ (.tail _ (.tail _ (.tail _ (.tail _ (.head _))))))) (xsc (.tail _ (.tail _ (.tail _ (.tail _ (.tail _ (.tail _ (.tail _ (.head _)))))))) (xsc (.head _) xsn)))))))) (show ([7, 0, 1, 2, 3, 4, 5, 6] : List Nat).Nodup from by decide) (hK34 v0 v1 v2 v3 v4 v5 v6 (v7 + 1) M1)
  · skip
    refine xZ.adv (me := xm116) hP_116 3 (pc' := 85) (lv' := [(0, .ref v0), (1, .ref v1), (2, .int (yw v2)), (3, .int (yw v3)), (4, .int (yw v4)), (5, .int (yw v5)), (6, .int (yw v6)), (7, .int (yw v7))]) (st' := [.int (yw v7), .ref v0, .ref v1]) rfl ?_
    refine xZ.callv (κ := oJ) (av := [.int (yw v7)]) (rest := [.ref v1]) (st' := fun x2 => [.int (yw x2), .ref v1]) (k0 := v0) (me := xm116) hP_116 rfl (Or.inl rfl) ⟨rfl, by decide⟩ rfl rfl (Nat.le_of_ble_eq_true rfl) (by decide) hP_108 (Nat.le_of_ble_eq_true rfl) (fun _ => rfl) (k_f_Series_exceptionTo O f (d + 4) v0 v7 M1) (fun x2 M2 => ?_)
    refine xZ.callv (κ := oJ) (av := [.int (yw x2)]) (rest := []) (st' := fun x3 => [.int (yw x3)]) (k0 := v1) (me := xm116) hP_116 rfl (Or.inl rfl) ⟨rfl, by decide⟩ rfl rfl (Nat.le_of_ble_eq_true rfl) (by decide) hP_105 (Nat.le_of_ble_eq_true rfl) (fun _ => rfl) (k_f_Zone_commonOf O f (d + 1) v1 x2 M2) (fun x3 M3 => ?_)
    refine xZ.adv (me := xm116) hP_116 3 (pc' := 96) (lv' := [(8, .int (yw x3)), (0, .ref v0), (1, .ref v1), (2, .int (yw v2)), (3, .int (yw v3)), (4, .int (yw v4)), (5, .int (yw v5)), (6, .int (yw v6)), (7, .int (yw v7))]) (st' := [.int (yw v2), .int (yw x3)]) rfl ?_
    refine xZ.jc_lt (me := xm116) hP_116 rfl (fun h2 => ?_) (fun h2 => ?_)
    · skip
      refine xZ.adv (me := xm116) hP_116 2 (pc' := 34) (lv' := [(7, .int ((yw v7) + (1 : Int32))), (8, .int (yw x3)), (0, .ref v0), (1, .ref v1), (2, .int (yw v2)), (3, .int (yw v3)), (4, .int (yw v4)), (5, .int (yw v5)), (6, .int (yw v6))]) (st' := []) rfl ?_
      refine xZ.eqs (lv2 := [(7, .int (yw (v7 + 1))), (8, .int (yw x3)), (0, .ref v0), (1, .ref v1), (2, .int (yw v2)), (3, .int (yw v3)), (4, .int (yw v4)), (5, .int (yw v5)), (6, .int (yw v6))]) (st2 := []) (by simp only [yl_lit, yL_lit, yw_add, yw_sub, yw_mul, yw_neg, yl_add, yl_sub, yl_mul, cj_and, cj_or, cj_xor, cj_shl, cj_shr, cj_ushr, cj_div, cj_i2c, cj_i2b, cj_dc, ck_and, ck_or, ck_xor, ck_shl, ck_shr, ck_ushr, ck_i2l, ck_l2i, ck_cmp]) rfl ?_
      exact xZ.sub (xsc (.tail _ (.tail _ (.head _))) (xsc (.tail _ (.tail _ (.tail _ (.head _)))) (xsc (.tail _ (.tail _ (.tail _ (.tail _ (.head _))))) (xsc (.tail _ (.tail _ (.tail _ (.tail _ (.tail _ (.head _)))))) (xsc (.tail _ (.tail _ (.tail _ (.tail _ (.tail _ (.tail _ (.head _))))))) (xsc (.tail _ (.tail _ (.tail _ (.tail _ (.tail _ (.tail _ (.tail _ (.head _)))))))) (xsc (.tail _ (.tail _ (.tail _ (.tail _ (.tail _ (.tail _ (.tail _ (.tail _ (.head _))))))))) (xsc (.head _) xsn)))))))) (show ([7, 8, 0, 1, 2, 3, 4, 5, 6] : List Nat).Nodup from by decide) (hK34 v0 v1 v2 v3 v4 v5 v6 (v7 + 1) M3)
    · skip
      refine xZ.adv (me := xm116) hP_116 2 (pc' := 102) (lv' := [(8, .int (yw x3)), (0, .ref v0), (1, .ref v1), (2, .int (yw v2)), (3, .int (yw v3)), (4, .int (yw v4)), (5, .int (yw v5)), (6, .int (yw v6)), (7, .int (yw v7))]) (st' := [.int (yw v3), .int (yw x3)]) rfl ?_
      refine xZ.jc_ge (me := xm116) hP_116 rfl (fun h3 => ?_) (fun h3 => ?_)
      · skip
        refine xZ.adv (me := xm116) hP_116 2 (pc' := 34) (lv' := [(7, .int ((yw v7) + (1 : Int32))), (8, .int (yw x3)), (0, .ref v0), (1, .ref v1), (2, .int (yw v2)), (3, .int (yw v3)), (4, .int (yw v4)), (5, .int (yw v5)), (6, .int (yw v6))]) (st' := []) rfl ?_
        refine xZ.eqs (lv2 := [(7, .int (yw (v7 + 1))), (8, .int (yw x3)), (0, .ref v0), (1, .ref v1), (2, .int (yw v2)), (3, .int (yw v3)), (4, .int (yw v4)), (5, .int (yw v5)), (6, .int (yw v6))]) (st2 := []) (by simp only [yl_lit, yL_lit, yw_add, yw_sub, yw_mul, yw_neg, yl_add, yl_sub, yl_mul, cj_and, cj_or, cj_xor, cj_shl, cj_shr, cj_ushr, cj_div, cj_i2c, cj_i2b, cj_dc, ck_and, ck_or, ck_xor, ck_shl, ck_shr, ck_ushr, ck_i2l, ck_l2i, ck_cmp]) rfl ?_
        exact xZ.sub (xsc (.tail _ (.tail _ (.head _))) (xsc (.tail _ (.tail _ (.tail _ (.head _)))) (xsc (.tail _ (.tail _ (.tail _ (.tail _ (.head _))))) (xsc (.tail _ (.tail _ (.tail _ (.tail _ (.tail _ (.head _)))))) (xsc (.tail _ (.tail _ (.tail _ (.tail _ (.tail _ (.tail _ (.head _))))))) (xsc (.tail _ (.tail _ (.tail _ (.tail _ (.tail _ (.tail _ (.tail _ (.head _)))))))) (xsc (.tail _ (.tail _ (.tail _ (.tail _ (.tail _ (.tail _ (.tail _ (.tail _ (.head _))))))))) (xsc (.head _) xsn)))))))) (show ([7, 8, 0, 1, 2, 3, 4, 5, 6] : List Nat).Nodup from by decide) (hK34 v0 v1 v2 v3 v4 v5 v6 (v7 + 1) M3)
      · skip
        refine xZ.adv (me := xm116) hP_116 3 (pc' := 34) (lv' := [(7, .int ((yw v7) + (1 : Int32))), (6, .int ((yw v6) + (1 : Int32))), (8, .int (yw x3)), (0, .ref v0), (1, .ref v1), (2, .int (yw v2)), (3, .int (yw v3)), (4, .int (yw v4)), (5, .int (yw v5))]) (st' := []) rfl ?_
        refine xZ.eqs (lv2 := [(7, .int (yw (v7 + 1))), (6, .int (yw (v6 + 1))), (8, .int (yw x3)), (0, .ref v0), (1, .ref v1), (2, .int (yw v2)), (3, .int (yw v3)), (4, .int (yw v4)), (5, .int (yw v5))]) (st2 := []) (by simp only [yl_lit, yL_lit, yw_add, yw_sub, yw_mul, yw_neg, yl_add, yl_sub, yl_mul, cj_and, cj_or, cj_xor, cj_shl, cj_shr, cj_ushr, cj_div, cj_i2c, cj_i2b, cj_dc, ck_and, ck_or, ck_xor, ck_shl, ck_shr, ck_ushr, ck_i2l, ck_l2i, ck_cmp]) rfl ?_
        exact xZ.sub (xsc (.tail _ (.tail _ (.tail _ (.head _)))) (xsc (.tail _ (.tail _ (.tail _ (.tail _ (.head _))))) (xsc (.tail _ (.tail _ (.tail _ (.tail _ (.tail _ (.head _)))))) (xsc (.tail _ (.tail _ (.tail _ (.tail _ (.tail _ (.tail _ (.head _))))))) (xsc (.tail _ (.tail _ (.tail _ (.tail _ (.tail _ (.tail _ (.tail _ (.head _)))))))) (xsc (.tail _ (.tail _ (.tail _ (.tail _ (.tail _ (.tail _ (.tail _ (.tail _ (.head _))))))))) (xsc (.tail _ (.head _)) (xsc (.head _) xsn)))))))) (show ([7, 6, 8, 0, 1, 2, 3, 4, 5] : List Nat).Nodup from by decide) (hK34 v0 v1 v2 v3 v4 v5 (v6 + 1) (v7 + 1) M3)
def f_Series_countBegins_34 (O : Nat → Option va_E) (f : Nat) : Nat → Nat → Nat → Int → Int → Int → Int → Int → Int → xM → Option (Int × xM)
  | 0, _, _, _, _, _, _, _, _, _ => none
  | n + 1, v0, v1, v2, v3, v4, v5, v6, v7, M =>
    (gJ O M v0 10 7).bind fun x1 =>
    if yw x1 ≤ yw v7 then (
      some (v6, M)
    ) else
    (isO O M v0 10).bind fun _ =>
    xcl (f_Series_exceptionDay O f v0 v7 M) fun x2 M1 =>
    if yw x2 < yw v4 then (
      f_Series_countBegins_68 O f (f_Series_countBegins_34 O f n) v0 v1 v2 v3 v4 v5 v6 v7 M1
    ) else
    (isO O M1 v0 10).bind fun _ =>
    xcl (f_Series_exceptionDay O f v0 v7 M1) fun x3 M2 =>
    if yw v5 < yw x3 then (
      f_Series_countBegins_68 O f (f_Series_countBegins_34 O f n) v0 v1 v2 v3 v4 v5 v6 v7 M2
    ) else
    f_Series_countBegins_68 O f (f_Series_countBegins_34 O f n) v0 v1 v2 v3 v4 v5 (v6 + (-1)) v7 M2
set_option maxRecDepth 20000 in
theorem k_f_Series_countBegins_34 (O : Nat → Option va_E) (f d : Nat) : ∀ (n : Nat) (v0 : Nat) (v1 : Nat) (v2 : Int) (v3 : Int) (v4 : Int) (v5 : Int) (v6 : Int) (v7 : Int) (M : xM), xZ oJ O (d + 5) 116 34 [(0, .ref v0), (1, .ref v1), (2, .int (yw v2)), (3, .int (yw v3)), (4, .int (yw v4)), (5, .int (yw v5)), (6, .int (yw v6)), (7, .int (yw v7))] [] M (f_Series_countBegins_34 O f n v0 v1 v2 v3 v4 v5 v6 v7 M) := by
  intro n
  induction n with
  | zero =>
    intro v0 v1 v2 v3 v4 v5 v6 v7 M
    exact xZ.no
  | succ n ih =>
    intro v0 v1 v2 v3 v4 v5 v6 v7 M
    unfold f_Series_countBegins_34
    refine xZ.adv (me := xm116) hP_116 2 (pc' := 37) (lv' := [(0, .ref v0), (1, .ref v1), (2, .int (yw v2)), (3, .int (yw v3)), (4, .int (yw v4)), (5, .int (yw v5)), (6, .int (yw v6)), (7, .int (yw v7))]) (st' := [.ref v0, .int (yw v7)]) rfl ?_
    refine xZ.k_gJ (me := xm116) hP_116 rfl (fun x1 => ?_)
    refine xZ.jc_ge (me := xm116) hP_116 rfl (fun h1 => ?_) (fun h1 => ?_)
    · skip
      refine xZ.adv (me := xm116) hP_116 1 (pc' := 116) (lv' := [(0, .ref v0), (1, .ref v1), (2, .int (yw v2)), (3, .int (yw v3)), (4, .int (yw v4)), (5, .int (yw v5)), (6, .int (yw v6)), (7, .int (yw v7))]) (st' := [.int (yw v6)]) rfl ?_
      exact xZ.jreti (me := xm116) hP_116 rfl rfl
    · skip
      refine xZ.adv (me := xm116) hP_116 2 (pc' := 46) (lv' := [(0, .ref v0), (1, .ref v1), (2, .int (yw v2)), (3, .int (yw v3)), (4, .int (yw v4)), (5, .int (yw v5)), (6, .int (yw v6)), (7, .int (yw v7))]) (st' := [.int (yw v7), .ref v0]) rfl ?_
      refine xZ.callv (κ := oJ) (av := [.int (yw v7)]) (rest := []) (st' := fun x2 => [.int (yw x2)]) (k0 := v0) (me := xm116) hP_116 rfl (Or.inl rfl) ⟨rfl, by decide⟩ rfl rfl (Nat.le_of_ble_eq_true rfl) (by decide) hP_119 (Nat.le_of_ble_eq_true rfl) (fun _ => rfl) (k_f_Series_exceptionDay O f (d + 4) v0 v7 M) (fun x2 M1 => ?_)
      refine xZ.adv (me := xm116) hP_116 1 (pc' := 51) (lv' := [(0, .ref v0), (1, .ref v1), (2, .int (yw v2)), (3, .int (yw v3)), (4, .int (yw v4)), (5, .int (yw v5)), (6, .int (yw v6)), (7, .int (yw v7))]) (st' := [.int (yw v4), .int (yw x2)]) rfl ?_
      refine xZ.jc_lt (me := xm116) hP_116 rfl (fun h2 => ?_) (fun h2 => ?_)
      · skip
        exact (k_f_Series_countBegins_68 O f d (f_Series_countBegins_34 O f n) ih v0 v1 v2 v3 v4 v5 v6 v7 M1)
      · skip
        refine xZ.adv (me := xm116) hP_116 2 (pc' := 57) (lv' := [(0, .ref v0), (1, .ref v1), (2, .int (yw v2)), (3, .int (yw v3)), (4, .int (yw v4)), (5, .int (yw v5)), (6, .int (yw v6)), (7, .int (yw v7))]) (st' := [.int (yw v7), .ref v0]) rfl ?_
        refine xZ.callv (κ := oJ) (av := [.int (yw v7)]) (rest := []) (st' := fun x3 => [.int (yw x3)]) (k0 := v0) (me := xm116) hP_116 rfl (Or.inl rfl) ⟨rfl, by decide⟩ rfl rfl (Nat.le_of_ble_eq_true rfl) (by decide) hP_119 (Nat.le_of_ble_eq_true rfl) (fun _ => rfl) (k_f_Series_exceptionDay O f (d + 4) v0 v7 M1) (fun x3 M2 => ?_)
        refine xZ.adv (me := xm116) hP_116 1 (pc' := 62) (lv' := [(0, .ref v0), (1, .ref v1), (2, .int (yw v2)), (3, .int (yw v3)), (4, .int (yw v4)), (5, .int (yw v5)), (6, .int (yw v6)), (7, .int (yw v7))]) (st' := [.int (yw v5), .int (yw x3)]) rfl ?_
        refine xZ.jc_gt (me := xm116) hP_116 rfl (fun h3 => ?_) (fun h3 => ?_)
        · skip
          exact (k_f_Series_countBegins_68 O f d (f_Series_countBegins_34 O f n) ih v0 v1 v2 v3 v4 v5 v6 v7 M2)
        · skip
          refine xZ.adv (me := xm116) hP_116 1 (pc' := 68) (lv' := [(6, .int ((yw v6) + (-1 : Int32))), (0, .ref v0), (1, .ref v1), (2, .int (yw v2)), (3, .int (yw v3)), (4, .int (yw v4)), (5, .int (yw v5)), (7, .int (yw v7))]) (st' := []) rfl ?_
          refine xZ.eqs (lv2 := [(6, .int (yw (v6 + (-1)))), (0, .ref v0), (1, .ref v1), (2, .int (yw v2)), (3, .int (yw v3)), (4, .int (yw v4)), (5, .int (yw v5)), (7, .int (yw v7))]) (st2 := []) (by simp only [yl_lit, yL_lit, yw_add, yw_sub, yw_mul, yw_neg, yl_add, yl_sub, yl_mul, cj_and, cj_or, cj_xor, cj_shl, cj_shr, cj_ushr, cj_div, cj_i2c, cj_i2b, cj_dc, ck_and, ck_or, ck_xor, ck_shl, ck_shr, ck_ushr, ck_i2l, ck_l2i, ck_cmp]) rfl ?_
          exact xZ.sub (xsc (.tail _ (.head _)) (xsc (.tail _ (.tail _ (.head _))) (xsc (.tail _ (.tail _ (.tail _ (.head _)))) (xsc (.tail _ (.tail _ (.tail _ (.tail _ (.head _))))) (xsc (.tail _ (.tail _ (.tail _ (.tail _ (.tail _ (.head _)))))) (xsc (.tail _ (.tail _ (.tail _ (.tail _ (.tail _ (.tail _ (.head _))))))) (xsc (.head _) (xsc (.tail _ (.tail _ (.tail _ (.tail _ (.tail _ (.tail _ (.tail _ (.head _)))))))) xsn)))))))) (show ([6, 0, 1, 2, 3, 4, 5, 7] : List Nat).Nodup from by decide) (k_f_Series_countBegins_68 O f d (f_Series_countBegins_34 O f n) ih v0 v1 v2 v3 v4 v5 (v6 + (-1)) v7 M2)
def f_Series_countBegins (O : Nat → Option va_E) (f : Nat) (v0 : Nat) (v1 : Nat) (v2 : Int) (v3 : Int) (M : xM) : Option (Int × xM) :=
  (isO O M v0 10).bind fun _ =>
  xcl (f_Series_firstDayFrom O f v0 v1 v2 M) fun x1 M1 =>
  (isO O M1 v0 10).bind fun _ =>
  xcl (f_Series_firstDayFrom O f v0 v1 v3 M1) fun x2 M2 =>
  (gR O M2 v0 10 6).bind fun x3 =>
  (isO O M2 x3 9).bind fun _ =>
  xcl (f_Rule_count O f x3 x1 (x2 - 1) M2) fun x4 M3 =>
  f_Series_countBegins_34 O f f v0 v1 v2 v3 x1 (x2 - 1) x4 0 M3
set_option maxRecDepth 20000 in
theorem k_f_Series_countBegins (O : Nat → Option va_E) (f d : Nat) (v0 : Nat) (v1 : Nat) (v2 : Int) (v3 : Int) (M : xM) : xZ oJ O (d + 5) 116 0 [(0, .ref v0), (1, .ref v1), (2, .int (yw v2)), (3, .int (yw v3))] [] M (f_Series_countBegins O f v0 v1 v2 v3 M) := by
  unfold f_Series_countBegins
  refine xZ.adv (me := xm116) hP_116 3 (pc' := 3) (lv' := [(0, .ref v0), (1, .ref v1), (2, .int (yw v2)), (3, .int (yw v3))]) (st' := [.int (yw v2), .ref v1, .ref v0]) rfl ?_
  refine xZ.callv (κ := oJ) (av := [.ref v1, .int (yw v2)]) (rest := []) (st' := fun x1 => [.int (yw x1)]) (k0 := v0) (me := xm116) hP_116 rfl (Or.inl rfl) ⟨rfl, by decide⟩ rfl rfl (Nat.le_of_ble_eq_true rfl) (by decide) hP_117 (Nat.le_of_ble_eq_true rfl) (fun _ => rfl) (k_f_Series_firstDayFrom O f (d + 0) v0 v1 v2 M) (fun x1 M1 => ?_)
  refine xZ.adv (me := xm116) hP_116 4 (pc' := 11) (lv' := [(4, .int (yw x1)), (0, .ref v0), (1, .ref v1), (2, .int (yw v2)), (3, .int (yw v3))]) (st' := [.int (yw v3), .ref v1, .ref v0]) rfl ?_
  refine xZ.callv (κ := oJ) (av := [.ref v1, .int (yw v3)]) (rest := []) (st' := fun x2 => [.int (yw x2)]) (k0 := v0) (me := xm116) hP_116 rfl (Or.inl rfl) ⟨rfl, by decide⟩ rfl rfl (Nat.le_of_ble_eq_true rfl) (by decide) hP_117 (Nat.le_of_ble_eq_true rfl) (fun _ => rfl) (k_f_Series_firstDayFrom O f (d + 0) v0 v1 v3 M1) (fun x2 M2 => ?_)
  refine xZ.adv (me := xm116) hP_116 4 (pc' := 19) (lv' := [(5, .int ((yw x2) - (1 : Int32))), (4, .int (yw x1)), (0, .ref v0), (1, .ref v1), (2, .int (yw v2)), (3, .int (yw v3))]) (st' := [.ref v0]) rfl ?_
  refine xZ.eqs (lv2 := [(5, .int (yw (x2 - 1))), (4, .int (yw x1)), (0, .ref v0), (1, .ref v1), (2, .int (yw v2)), (3, .int (yw v3))]) (st2 := [.ref v0]) (by simp only [yl_lit, yL_lit, yw_add, yw_sub, yw_mul, yw_neg, yl_add, yl_sub, yl_mul, cj_and, cj_or, cj_xor, cj_shl, cj_shr, cj_ushr, cj_div, cj_i2c, cj_i2b, cj_dc, ck_and, ck_or, ck_xor, ck_shl, ck_shr, ck_ushr, ck_i2l, ck_l2i, ck_cmp]) rfl ?_
  refine xZ.k_gR (me := xm116) hP_116 rfl (fun x3 => ?_)
  refine xZ.adv (me := xm116) hP_116 2 (pc' := 26) (lv' := [(5, .int (yw (x2 - 1))), (4, .int (yw x1)), (0, .ref v0), (1, .ref v1), (2, .int (yw v2)), (3, .int (yw v3))]) (st' := [.int (yw (x2 - 1)), .int (yw x1), .ref x3]) rfl ?_
  refine xZ.callv (κ := oJ) (av := [.int (yw x1), .int (yw (x2 - 1))]) (rest := []) (st' := fun x4 => [.int (yw x4)]) (k0 := x3) (me := xm116) hP_116 rfl (Or.inl rfl) ⟨rfl, by decide⟩ rfl rfl (Nat.le_of_ble_eq_true rfl) (by decide) hP_94 (Nat.le_of_ble_eq_true rfl) (fun _ => rfl) (k_f_Rule_count O f (d + 0) x3 x1 (x2 - 1) M2) (fun x4 M3 => ?_)
  refine xZ.adv (me := xm116) hP_116 3 (pc' := 34) (lv' := [(7, .int (0 : Int32)), (6, .int (yw x4)), (5, .int (yw (x2 - 1))), (4, .int (yw x1)), (0, .ref v0), (1, .ref v1), (2, .int (yw v2)), (3, .int (yw v3))]) (st' := []) rfl ?_
  refine xZ.eqs (lv2 := [(7, .int (yw 0)), (6, .int (yw x4)), (5, .int (yw (x2 - 1))), (4, .int (yw x1)), (0, .ref v0), (1, .ref v1), (2, .int (yw v2)), (3, .int (yw v3))]) (st2 := []) (by simp only [yl_lit, yL_lit, yw_add, yw_sub, yw_mul, yw_neg, yl_add, yl_sub, yl_mul, cj_and, cj_or, cj_xor, cj_shl, cj_shr, cj_ushr, cj_div, cj_i2c, cj_i2b, cj_dc, ck_and, ck_or, ck_xor, ck_shl, ck_shr, ck_ushr, ck_i2l, ck_l2i, ck_cmp]) rfl ?_
  exact xZ.sub (xsc (.tail _ (.tail _ (.tail _ (.tail _ (.head _))))) (xsc (.tail _ (.tail _ (.tail _ (.tail _ (.tail _ (.head _)))))) (xsc (.tail _ (.tail _ (.tail _ (.tail _ (.tail _ (.tail _ (.head _))))))) (xsc (.tail _ (.tail _ (.tail _ (.tail _ (.tail _ (.tail _ (.tail _ (.head _)))))))) (xsc (.tail _ (.tail _ (.tail _ (.head _)))) (xsc (.tail _ (.tail _ (.head _))) (xsc (.tail _ (.head _)) (xsc (.head _) xsn)))))))) (show ([7, 6, 5, 4, 0, 1, 2, 3] : List Nat).Nodup from by decide) (k_f_Series_countBegins_34 O f d f v0 v1 v2 v3 x1 (x2 - 1) x4 0 M3)
def f_Calendarhall_countDates (O : Nat → Option va_E) (f : Nat) (v0 : Nat) (v1 : Int) (v2 : Int) (v3 : Int) (M : xM) : Option (Int × xM) :=
  (isO O M v0 12).bind fun _ =>
  xcl (f_Calendarhall_seriesNumbered O f v0 v1 M) fun x1 M1 =>
  xcl (f_Calendarhall_needPiece O f v2 v3 525600 M1) fun _ M2 =>
  (gR O M2 v0 12 0).bind fun x3 =>
  (isO O M2 x3 4).bind fun _ =>
  xcl (f_Hall_zoneOf O f x3 x1 M2) fun x4 M3 =>
  (isO O M3 x1 10).bind fun _ =>
  xcl (f_Series_countBegins O f x1 x4 v2 v3 M3) fun x5 M4 =>
  some (x5, M4)
set_option maxRecDepth 20000 in
theorem k_f_Calendarhall_countDates (O : Nat → Option va_E) (f d : Nat) (v0 : Nat) (v1 : Int) (v2 : Int) (v3 : Int) (M : xM) : xZ oJ O (d + 6) 113 0 [(0, .ref v0), (1, .int (yw v1)), (2, .int (yw v2)), (3, .int (yw v3))] [] M (f_Calendarhall_countDates O f v0 v1 v2 v3 M) := by
  unfold f_Calendarhall_countDates
  refine xZ.adv (me := xm113) hP_113 2 (pc' := 2) (lv' := [(0, .ref v0), (1, .int (yw v1)), (2, .int (yw v2)), (3, .int (yw v3))]) (st' := [.int (yw v1), .ref v0]) rfl ?_
  refine xZ.callv (κ := oR) (av := [.int (yw v1)]) (rest := []) (st' := fun x1 => [.ref x1]) (k0 := v0) (me := xm113) hP_113 rfl (Or.inl rfl) ⟨rfl, by decide⟩ rfl rfl (Nat.le_of_ble_eq_true rfl) (by decide) hP_79 (Nat.le_of_ble_eq_true rfl) (fun _ => rfl) (k_f_Calendarhall_seriesNumbered O f (d + 4) v0 v1 M) (fun x1 M1 => ?_)
  refine xZ.adv (me := xm113) hP_113 4 (pc' := 12) (lv' := [(4, .ref x1), (0, .ref v0), (1, .int (yw v1)), (2, .int (yw v2)), (3, .int (yw v3))]) (st' := [.int (525600 : Int32), .int (yw v3), .int (yw v2)]) rfl ?_
  refine xZ.eqs (lv2 := [(4, .ref x1), (0, .ref v0), (1, .int (yw v1)), (2, .int (yw v2)), (3, .int (yw v3))]) (st2 := [.int (yw 525600), .int (yw v3), .int (yw v2)]) rfl (by simp only [yl_lit, yL_lit, yw_add, yw_sub, yw_mul, yw_neg, yl_add, yl_sub, yl_mul, cj_and, cj_or, cj_xor, cj_shl, cj_shr, cj_ushr, cj_div, cj_i2c, cj_i2b, cj_dc, ck_and, ck_or, ck_xor, ck_shl, ck_shr, ck_ushr, ck_i2l, ck_l2i, ck_cmp]) ?_
  refine xZ.calls (κ := oU) (av := [.int (yw v2), .int (yw v3), .int (yw 525600)]) (rest := []) (st' := fun _ => []) (me := xm113) hP_113 rfl rfl rfl (Nat.le_of_ble_eq_true rfl) (by decide) hP_114 (Nat.le_of_ble_eq_true rfl) (fun _ => rfl) (k_f_Calendarhall_needPiece O f (d + 4) v2 v3 525600 M1) (fun _ M2 => ?_)
  refine xZ.adv (me := xm113) hP_113 2 (pc' := 18) (lv' := [(4, .ref x1), (0, .ref v0), (1, .int (yw v1)), (2, .int (yw v2)), (3, .int (yw v3))]) (st' := [.ref v0, .ref x1]) rfl ?_
  refine xZ.k_gR (me := xm113) hP_113 rfl (fun x3 => ?_)
  refine xZ.adv (me := xm113) hP_113 1 (pc' := 23) (lv' := [(4, .ref x1), (0, .ref v0), (1, .int (yw v1)), (2, .int (yw v2)), (3, .int (yw v3))]) (st' := [.ref x1, .ref x3, .ref x1]) rfl ?_
  refine xZ.callv (κ := oR) (av := [.ref x1]) (rest := [.ref x1]) (st' := fun x4 => [.ref x4, .ref x1]) (k0 := x3) (me := xm113) hP_113 rfl (Or.inl rfl) ⟨rfl, by decide⟩ rfl rfl (Nat.le_of_ble_eq_true rfl) (by decide) hP_102 (Nat.le_of_ble_eq_true rfl) (fun _ => rfl) (k_f_Hall_zoneOf O f (d + 4) x3 x1 M2) (fun x4 M3 => ?_)
  refine xZ.adv (me := xm113) hP_113 2 (pc' := 28) (lv' := [(4, .ref x1), (0, .ref v0), (1, .int (yw v1)), (2, .int (yw v2)), (3, .int (yw v3))]) (st' := [.int (yw v3), .int (yw v2), .ref x4, .ref x1]) rfl ?_
  refine xZ.callv (κ := oJ) (av := [.ref x4, .int (yw v2), .int (yw v3)]) (rest := []) (st' := fun x5 => [.int (yw x5)]) (k0 := x1) (me := xm113) hP_113 rfl (Or.inl rfl) ⟨rfl, by decide⟩ rfl rfl (Nat.le_of_ble_eq_true rfl) (by decide) hP_116 (Nat.le_of_ble_eq_true rfl) (fun _ => rfl) (k_f_Series_countBegins O f (d + 0) x1 x4 v2 v3 M3) (fun x5 M4 => ?_)
  exact xZ.jreti (me := xm113) hP_113 rfl rfl
def f_Dates_row (O : Nat → Option va_E) (f : Nat) (v0 : Int) (v1 : Int) (v2 : Int) (v3 : Int) (M : xM) : Option (Int × xM) :=
  some ((kor (kor (kor (kshl (ki2l v0) (kand (ki2l 23) 63)) (kshl (ki2l v1) (kand (ki2l 19) 63))) (kshl (ki2l v2) (kand (ki2l 1) 63))) (ki2l v3)), M)
set_option maxRecDepth 20000 in
theorem k_f_Dates_row (O : Nat → Option va_E) (f d : Nat) (v0 : Int) (v1 : Int) (v2 : Int) (v3 : Int) (M : xM) : xZ oK O (d + 0) 122 0 [(0, .int (yw v0)), (1, .int (yw v1)), (2, .int (yw v2)), (3, .int (yw v3))] [] M (f_Dates_row O f v0 v1 v2 v3 M) := by
  unfold f_Dates_row
  refine xZ.adv (me := xm122) hP_122 17 (pc' := 19) (lv' := [(0, .int (yw v0)), (1, .int (yw v1)), (2, .int (yw v2)), (3, .int (yw v3))]) (st' := [.long (((((Int32.toInt64 (yw v0)) <<< (Int32.toInt64 (23 : Int32) &&& 63)) ||| ((Int32.toInt64 (yw v1)) <<< (Int32.toInt64 (19 : Int32) &&& 63))) ||| ((Int32.toInt64 (yw v2)) <<< (Int32.toInt64 (1 : Int32) &&& 63))) ||| (Int32.toInt64 (yw v3)))]) rfl ?_
  refine xZ.eqs (lv2 := [(0, .int (yw v0)), (1, .int (yw v1)), (2, .int (yw v2)), (3, .int (yw v3))]) (st2 := [.long (yl (kor (kor (kor (kshl (ki2l v0) (kand (ki2l 23) 63)) (kshl (ki2l v1) (kand (ki2l 19) 63))) (kshl (ki2l v2) (kand (ki2l 1) 63))) (ki2l v3)))]) rfl (by simp only [yl_lit, yL_lit, yw_add, yw_sub, yw_mul, yw_neg, yl_add, yl_sub, yl_mul, cj_and, cj_or, cj_xor, cj_shl, cj_shr, cj_ushr, cj_div, cj_i2c, cj_i2b, cj_dc, ck_and, ck_or, ck_xor, ck_shl, ck_shr, ck_ushr, ck_i2l, ck_l2i, ck_cmp]) ?_
  exact xZ.jretl (me := xm122) hP_122 rfl rfl
def f_Series_firstRow_178 (O : Nat → Option va_E) (f : Nat) (K108 : Nat → Nat → Int → Int → Int → xM → Option (Int × xM)) (v0 : Nat) (v1 : Nat) (v2 : Int) (v6 : Int) (v8 : Int) (M : xM) : Option (Int × xM) :=
  K108 v0 v1 v2 v8 (v6 + 1) M
set_option maxRecDepth 20000 in
theorem k_f_Series_firstRow_178 (O : Nat → Option va_E) (f d : Nat) (K108 : Nat → Nat → Int → Int → Int → xM → Option (Int × xM)) (hK108 : ∀ (v0 : Nat) (v1 : Nat) (v2 : Int) (v3 : Int) (v6 : Int) M, xZ oK O (d + 5) 121 108 [(0, .ref v0), (1, .ref v1), (2, .int (yw v2)), (3, .long (yl v3)), (6, .int (yw v6))] [] M (K108 v0 v1 v2 v3 v6 M)) (v0 : Nat) (v1 : Nat) (v2 : Int) (v6 : Int) (v8 : Int) (M : xM) : xZ oK O (d + 5) 121 178 [(0, .ref v0), (1, .ref v1), (2, .int (yw v2)), (6, .int (yw v6)), (8, .long (yl v8))] [] M (f_Series_firstRow_178 O f K108 v0 v1 v2 v6 v8 M) := by
  unfold f_Series_firstRow_178
  refine xZ.adv (me := xm121) hP_121 4 (pc' := 108) (lv' := [(6, .int ((yw v6) + (1 : Int32))), (3, .long (yl v8)), (0, .ref v0), (1, .ref v1), (2, .int (yw v2)), (8, .long (yl v8))]) (st' := []) rfl ?_
  refine xZ.eqs (lv2 := [(6, .int (yw (v6 + 1))), (3, .long (yl v8)), (0, .ref v0), (1, .ref v1), (2, .int (yw v2)), (8, .long (yl v8))]) (st2 := []) (by simp only [yl_lit, yL_lit, yw_add, yw_sub, yw_mul, yw_neg, yl_add, yl_sub, yl_mul, cj_and, cj_or, cj_xor, cj_shl, cj_shr, cj_ushr, cj_div, cj_i2c, cj_i2b, cj_dc, ck_and, ck_or, ck_xor, ck_shl, ck_shr, ck_ushr, ck_i2l, ck_l2i, ck_cmp]) rfl ?_
  exact xZ.sub (xsc (.tail _ (.tail _ (.head _))) (xsc (.tail _ (.tail _ (.tail _ (.head _)))) (xsc (.tail _ (.tail _ (.tail _ (.tail _ (.head _))))) (xsc (.tail _ (.head _)) (xsc (.head _) xsn))))) (show ([6, 3, 0, 1, 2, 8] : List Nat).Nodup from by decide) (hK108 v0 v1 v2 v8 (v6 + 1) M)
def f_Series_firstRow_108 (O : Nat → Option va_E) (f : Nat) : Nat → Nat → Nat → Int → Int → Int → xM → Option (Int × xM)
  | 0, _, _, _, _, _, _ => none
  | n + 1, v0, v1, v2, v3, v6, M =>
    (gJ O M v0 10 7).bind fun x1 =>
    if yw x1 ≤ yw v6 then (
      some (v3, M)
    ) else
    (isO O M v0 10).bind fun _ =>
    xcl (f_Series_exceptionTo O f v0 v6 M) fun x2 M1 =>
    if yw x2 = yw (-1) then (
      f_Series_firstRow_108 O f n v0 v1 v2 v3 (v6 + 1) M1
    ) else
    (isO O M1 v0 10).bind fun _ =>
    xcl (f_Series_exceptionTo O f v0 v6 M1) fun x3 M2 =>
    (isO O M2 v1 11).bind fun _ =>
    xcl (f_Zone_commonOf O f v1 x3 M2) fun x4 M3 =>
    (isO O M3 v0 10).bind fun _ =>
    xcl (f_Series_exceptionDay O f v0 v6 M3) fun x5 M4 =>
    xcl (f_Dates_row O f x4 0 x5 0 M4) fun x6 M5 =>
    if yw x4 < yw v2 then (
      f_Series_firstRow_108 O f n v0 v1 v2 v3 (v6 + 1) M5
    ) else
    if yw (kcmp v3 (-1)) = yw 0 then (
      f_Series_firstRow_178 O f (f_Series_firstRow_108 O f n) v0 v1 v2 v6 x6 M5
    ) else
    if yw 0 ≤ yw (kcmp x6 v3) then (
      f_Series_firstRow_108 O f n v0 v1 v2 v3 (v6 + 1) M5
    ) else
    f_Series_firstRow_178 O f (f_Series_firstRow_108 O f n) v0 v1 v2 v6 x6 M5
set_option maxRecDepth 20000 in
theorem k_f_Series_firstRow_108 (O : Nat → Option va_E) (f d : Nat) : ∀ (n : Nat) (v0 : Nat) (v1 : Nat) (v2 : Int) (v3 : Int) (v6 : Int) (M : xM), xZ oK O (d + 5) 121 108 [(0, .ref v0), (1, .ref v1), (2, .int (yw v2)), (3, .long (yl v3)), (6, .int (yw v6))] [] M (f_Series_firstRow_108 O f n v0 v1 v2 v3 v6 M) := by
  intro n
  induction n with
  | zero =>
    intro v0 v1 v2 v3 v6 M
    exact xZ.no
  | succ n ih =>
    intro v0 v1 v2 v3 v6 M
    unfold f_Series_firstRow_108
    refine xZ.adv (me := xm121) hP_121 2 (pc' := 111) (lv' := [(0, .ref v0), (1, .ref v1), (2, .int (yw v2)), (3, .long (yl v3)), (6, .int (yw v6))]) (st' := [.ref v0, .int (yw v6)]) rfl ?_
    refine xZ.k_gJ (me := xm121) hP_121 rfl (fun x1 => ?_)
    refine xZ.jc_ge (me := xm121) hP_121 rfl (fun h1 => ?_) (fun h1 => ?_)
    · skip
      refine xZ.adv (me := xm121) hP_121 1 (pc' := 188) (lv' := [(0, .ref v0), (1, .ref v1), (2, .int (yw v2)), (3, .long (yl v3)), (6, .int (yw v6))]) (st' := [.long (yl v3)]) rfl ?_
      exact xZ.jretl (me := xm121) hP_121 rfl rfl
    · skip
      refine xZ.adv (me := xm121) hP_121 2 (pc' := 120) (lv' := [(0, .ref v0), (1, .ref v1), (2, .int (yw v2)), (3, .long (yl v3)), (6, .int (yw v6))]) (st' := [.int (yw v6), .ref v0]) rfl ?_
      refine xZ.callv (κ := oJ) (av := [.int (yw v6)]) (rest := []) (st' := fun x2 => [.int (yw x2)]) (k0 := v0) (me := xm121) hP_121 rfl (Or.inl rfl) ⟨rfl, by decide⟩ rfl rfl (Nat.le_of_ble_eq_true rfl) (by decide) hP_108 (Nat.le_of_ble_eq_true rfl) (fun _ => rfl) (k_f_Series_exceptionTo O f (d + 4) v0 v6 M) (fun x2 M1 => ?_)
      refine xZ.adv (me := xm121) hP_121 1 (pc' := 124) (lv' := [(0, .ref v0), (1, .ref v1), (2, .int (yw v2)), (3, .long (yl v3)), (6, .int (yw v6))]) (st' := [.int (-1 : Int32), .int (yw x2)]) rfl ?_
      refine xZ.eqs (lv2 := [(0, .ref v0), (1, .ref v1), (2, .int (yw v2)), (3, .long (yl v3)), (6, .int (yw v6))]) (st2 := [.int (yw (-1)), .int (yw x2)]) rfl (by simp only [yl_lit, yL_lit, yw_add, yw_sub, yw_mul, yw_neg, yl_add, yl_sub, yl_mul, cj_and, cj_or, cj_xor, cj_shl, cj_shr, cj_ushr, cj_div, cj_i2c, cj_i2b, cj_dc, ck_and, ck_or, ck_xor, ck_shl, ck_shr, ck_ushr, ck_i2l, ck_l2i, ck_cmp]) ?_
      refine xZ.jc_ne (me := xm121) hP_121 rfl (fun h2 => ?_) (fun h2 => ?_)
      · skip
        refine xZ.adv (me := xm121) hP_121 3 (pc' := 108) (lv' := [(6, .int ((yw v6) + (1 : Int32))), (0, .ref v0), (1, .ref v1), (2, .int (yw v2)), (3, .long (yl v3))]) (st' := []) rfl ?_
        refine xZ.eqs (lv2 := [(6, .int (yw (v6 + 1))), (0, .ref v0), (1, .ref v1), (2, .int (yw v2)), (3, .long (yl v3))]) (st2 := []) (by simp only [yl_lit, yL_lit, yw_add, yw_sub, yw_mul, yw_neg, yl_add, yl_sub, yl_mul, cj_and, cj_or, cj_xor, cj_shl, cj_shr, cj_ushr, cj_div, cj_i2c, cj_i2b, cj_dc, ck_and, ck_or, ck_xor, ck_shl, ck_shr, ck_ushr, ck_i2l, ck_l2i, ck_cmp]) rfl ?_
        exact xZ.sub (xsc (.tail _ (.head _)) (xsc (.tail _ (.tail _ (.head _))) (xsc (.tail _ (.tail _ (.tail _ (.head _)))) (xsc (.tail _ (.tail _ (.tail _ (.tail _ (.head _))))) (xsc (.head _) xsn))))) (show ([6, 0, 1, 2, 3] : List Nat).Nodup from by decide) (ih v0 v1 v2 v3 (v6 + 1) M1)
      · skip
        refine xZ.adv (me := xm121) hP_121 3 (pc' := 134) (lv' := [(0, .ref v0), (1, .ref v1), (2, .int (yw v2)), (3, .long (yl v3)), (6, .int (yw v6))]) (st' := [.int (yw v6), .ref v0, .ref v1]) rfl ?_
        refine xZ.callv (κ := oJ) (av := [.int (yw v6)]) (rest := [.ref v1]) (st' := fun x3 => [.int (yw x3), .ref v1]) (k0 := v0) (me := xm121) hP_121 rfl (Or.inl rfl) ⟨rfl, by decide⟩ rfl rfl (Nat.le_of_ble_eq_true rfl) (by decide) hP_108 (Nat.le_of_ble_eq_true rfl) (fun _ => rfl) (k_f_Series_exceptionTo O f (d + 4) v0 v6 M1) (fun x3 M2 => ?_)
        refine xZ.callv (κ := oJ) (av := [.int (yw x3)]) (rest := []) (st' := fun x4 => [.int (yw x4)]) (k0 := v1) (me := xm121) hP_121 rfl (Or.inl rfl) ⟨rfl, by decide⟩ rfl rfl (Nat.le_of_ble_eq_true rfl) (by decide) hP_105 (Nat.le_of_ble_eq_true rfl) (fun _ => rfl) (k_f_Zone_commonOf O f (d + 1) v1 x3 M2) (fun x4 M3 => ?_)
        refine xZ.adv (me := xm121) hP_121 5 (pc' := 148) (lv' := [(7, .int (yw x4)), (0, .ref v0), (1, .ref v1), (2, .int (yw v2)), (3, .long (yl v3)), (6, .int (yw v6))]) (st' := [.int (yw v6), .ref v0, .int (0 : Int32), .int (yw x4)]) rfl ?_
        refine xZ.eqs (lv2 := [(7, .int (yw x4)), (0, .ref v0), (1, .ref v1), (2, .int (yw v2)), (3, .long (yl v3)), (6, .int (yw v6))]) (st2 := [.int (yw v6), .ref v0, .int (yw 0), .int (yw x4)]) rfl (by simp only [yl_lit, yL_lit, yw_add, yw_sub, yw_mul, yw_neg, yl_add, yl_sub, yl_mul, cj_and, cj_or, cj_xor, cj_shl, cj_shr, cj_ushr, cj_div, cj_i2c, cj_i2b, cj_dc, ck_and, ck_or, ck_xor, ck_shl, ck_shr, ck_ushr, ck_i2l, ck_l2i, ck_cmp]) ?_
        refine xZ.callv (κ := oJ) (av := [.int (yw v6)]) (rest := [.int (yw 0), .int (yw x4)]) (st' := fun x5 => [.int (yw x5), .int (yw 0), .int (yw x4)]) (k0 := v0) (me := xm121) hP_121 rfl (Or.inl rfl) ⟨rfl, by decide⟩ rfl rfl (Nat.le_of_ble_eq_true rfl) (by decide) hP_119 (Nat.le_of_ble_eq_true rfl) (fun _ => rfl) (k_f_Series_exceptionDay O f (d + 4) v0 v6 M3) (fun x5 M4 => ?_)
        refine xZ.adv (me := xm121) hP_121 1 (pc' := 152) (lv' := [(7, .int (yw x4)), (0, .ref v0), (1, .ref v1), (2, .int (yw v2)), (3, .long (yl v3)), (6, .int (yw v6))]) (st' := [.int (0 : Int32), .int (yw x5), .int (yw 0), .int (yw x4)]) rfl ?_
        refine xZ.eqs (lv2 := [(7, .int (yw x4)), (0, .ref v0), (1, .ref v1), (2, .int (yw v2)), (3, .long (yl v3)), (6, .int (yw v6))]) (st2 := [.int (yw 0), .int (yw x5), .int (yw 0), .int (yw x4)]) rfl (by simp only [yl_lit, yL_lit, yw_add, yw_sub, yw_mul, yw_neg, yl_add, yl_sub, yl_mul, cj_and, cj_or, cj_xor, cj_shl, cj_shr, cj_ushr, cj_div, cj_i2c, cj_i2b, cj_dc, ck_and, ck_or, ck_xor, ck_shl, ck_shr, ck_ushr, ck_i2l, ck_l2i, ck_cmp]) ?_
        refine xZ.calls (κ := oK) (av := [.int (yw x4), .int (yw 0), .int (yw x5), .int (yw 0)]) (rest := []) (st' := fun x6 => [.long (yl x6)]) (me := xm121) hP_121 rfl rfl rfl (Nat.le_of_ble_eq_true rfl) (by decide) hP_122 (Nat.le_of_ble_eq_true rfl) (fun _ => rfl) (k_f_Dates_row O f (d + 4) x4 0 x5 0 M4) (fun x6 M5 => ?_)
        refine xZ.adv (me := xm121) hP_121 3 (pc' := 160) (lv' := [(8, .long (yl x6)), (7, .int (yw x4)), (0, .ref v0), (1, .ref v1), (2, .int (yw v2)), (3, .long (yl v3)), (6, .int (yw v6))]) (st' := [.int (yw v2), .int (yw x4)]) rfl ?_
        refine xZ.jc_lt (me := xm121) hP_121 rfl (fun h3 => ?_) (fun h3 => ?_)
        · skip
          refine xZ.adv (me := xm121) hP_121 2 (pc' := 108) (lv' := [(6, .int ((yw v6) + (1 : Int32))), (8, .long (yl x6)), (7, .int (yw x4)), (0, .ref v0), (1, .ref v1), (2, .int (yw v2)), (3, .long (yl v3))]) (st' := []) rfl ?_
          refine xZ.eqs (lv2 := [(6, .int (yw (v6 + 1))), (8, .long (yl x6)), (7, .int (yw x4)), (0, .ref v0), (1, .ref v1), (2, .int (yw v2)), (3, .long (yl v3))]) (st2 := []) (by simp only [yl_lit, yL_lit, yw_add, yw_sub, yw_mul, yw_neg, yl_add, yl_sub, yl_mul, cj_and, cj_or, cj_xor, cj_shl, cj_shr, cj_ushr, cj_div, cj_i2c, cj_i2b, cj_dc, ck_and, ck_or, ck_xor, ck_shl, ck_shr, ck_ushr, ck_i2l, ck_l2i, ck_cmp]) rfl ?_
          exact xZ.sub (xsc (.tail _ (.tail _ (.tail _ (.head _)))) (xsc (.tail _ (.tail _ (.tail _ (.tail _ (.head _))))) (xsc (.tail _ (.tail _ (.tail _ (.tail _ (.tail _ (.head _)))))) (xsc (.tail _ (.tail _ (.tail _ (.tail _ (.tail _ (.tail _ (.head _))))))) (xsc (.head _) xsn))))) (show ([6, 8, 7, 0, 1, 2, 3] : List Nat).Nodup from by decide) (ih v0 v1 v2 v3 (v6 + 1) M5)
        · skip
          refine xZ.adv (me := xm121) hP_121 3 (pc' := 168) (lv' := [(8, .long (yl x6)), (7, .int (yw x4)), (0, .ref v0), (1, .ref v1), (2, .int (yw v2)), (3, .long (yl v3)), (6, .int (yw v6))]) (st' := [.int (lg_cmp (yl v3) (-1 : Int64))]) rfl ?_
          refine xZ.eqs (lv2 := [(8, .long (yl x6)), (7, .int (yw x4)), (0, .ref v0), (1, .ref v1), (2, .int (yw v2)), (3, .long (yl v3)), (6, .int (yw v6))]) (st2 := [.int (yw (kcmp v3 (-1)))]) rfl (by simp only [yl_lit, yL_lit, yw_add, yw_sub, yw_mul, yw_neg, yl_add, yl_neg, yl_sub, yl_mul, cj_and, cj_or, cj_xor, cj_shl, cj_shr, cj_ushr, cj_div, cj_i2c, cj_i2b, cj_dc, ck_and, ck_or, ck_xor, ck_shl, ck_shr, ck_ushr, ck_i2l, ck_l2i, ck_cmp]) ?_
          refine xZ.jf_eq (me := xm121) hP_121 rfl (fun h4 => ?_) (fun h4 => ?_)
          · skip
            exact xZ.sub (xsc (.tail _ (.tail _ (.head _))) (xsc (.tail _ (.tail _ (.tail _ (.head _)))) (xsc (.tail _ (.tail _ (.tail _ (.tail _ (.head _))))) (xsc (.tail _ (.tail _ (.tail _ (.tail _ (.tail _ (.tail _ (.head _))))))) (xsc (.head _) xsn))))) (show ([8, 7, 0, 1, 2, 3, 6] : List Nat).Nodup from by decide) (k_f_Series_firstRow_178 O f d (f_Series_firstRow_108 O f n) ih v0 v1 v2 v6 x6 M5)
          · skip
            refine xZ.adv (me := xm121) hP_121 3 (pc' := 175) (lv' := [(8, .long (yl x6)), (7, .int (yw x4)), (0, .ref v0), (1, .ref v1), (2, .int (yw v2)), (3, .long (yl v3)), (6, .int (yw v6))]) (st' := [.int (lg_cmp (yl x6) (yl v3))]) rfl ?_
            refine xZ.eqs (lv2 := [(8, .long (yl x6)), (7, .int (yw x4)), (0, .ref v0), (1, .ref v1), (2, .int (yw v2)), (3, .long (yl v3)), (6, .int (yw v6))]) (st2 := [.int (yw (kcmp x6 v3))]) rfl (by simp only [yl_lit, yL_lit, yw_add, yw_sub, yw_mul, yw_neg, yl_add, yl_sub, yl_mul, cj_and, cj_or, cj_xor, cj_shl, cj_shr, cj_ushr, cj_div, cj_i2c, cj_i2b, cj_dc, ck_and, ck_or, ck_xor, ck_shl, ck_shr, ck_ushr, ck_i2l, ck_l2i, ck_cmp]) ?_
            refine xZ.jf_ge (me := xm121) hP_121 rfl (fun h5 => ?_) (fun h5 => ?_)
            · skip
              refine xZ.adv (me := xm121) hP_121 2 (pc' := 108) (lv' := [(6, .int ((yw v6) + (1 : Int32))), (8, .long (yl x6)), (7, .int (yw x4)), (0, .ref v0), (1, .ref v1), (2, .int (yw v2)), (3, .long (yl v3))]) (st' := []) rfl ?_
              refine xZ.eqs (lv2 := [(6, .int (yw (v6 + 1))), (8, .long (yl x6)), (7, .int (yw x4)), (0, .ref v0), (1, .ref v1), (2, .int (yw v2)), (3, .long (yl v3))]) (st2 := []) (by simp only [yl_lit, yL_lit, yw_add, yw_sub, yw_mul, yw_neg, yl_add, yl_sub, yl_mul, cj_and, cj_or, cj_xor, cj_shl, cj_shr, cj_ushr, cj_div, cj_i2c, cj_i2b, cj_dc, ck_and, ck_or, ck_xor, ck_shl, ck_shr, ck_ushr, ck_i2l, ck_l2i, ck_cmp]) rfl ?_
              exact xZ.sub (xsc (.tail _ (.tail _ (.tail _ (.head _)))) (xsc (.tail _ (.tail _ (.tail _ (.tail _ (.head _))))) (xsc (.tail _ (.tail _ (.tail _ (.tail _ (.tail _ (.head _)))))) (xsc (.tail _ (.tail _ (.tail _ (.tail _ (.tail _ (.tail _ (.head _))))))) (xsc (.head _) xsn))))) (show ([6, 8, 7, 0, 1, 2, 3] : List Nat).Nodup from by decide) (ih v0 v1 v2 v3 (v6 + 1) M5)
            · skip
              exact xZ.sub (xsc (.tail _ (.tail _ (.head _))) (xsc (.tail _ (.tail _ (.tail _ (.head _)))) (xsc (.tail _ (.tail _ (.tail _ (.tail _ (.head _))))) (xsc (.tail _ (.tail _ (.tail _ (.tail _ (.tail _ (.tail _ (.head _))))))) (xsc (.head _) xsn))))) (show ([8, 7, 0, 1, 2, 3, 6] : List Nat).Nodup from by decide) (k_f_Series_firstRow_178 O f d (f_Series_firstRow_108 O f n) ih v0 v1 v2 v6 x6 M5)
def f_Series_firstRow_105 (O : Nat → Option va_E) (f : Nat) (v0 : Nat) (v1 : Nat) (v2 : Int) (v3 : Int) (M : xM) : Option (Int × xM) :=
  f_Series_firstRow_108 O f f v0 v1 v2 v3 0 M
set_option maxRecDepth 20000 in
theorem k_f_Series_firstRow_105 (O : Nat → Option va_E) (f d : Nat) (v0 : Nat) (v1 : Nat) (v2 : Int) (v3 : Int) (M : xM) : xZ oK O (d + 5) 121 105 [(0, .ref v0), (1, .ref v1), (2, .int (yw v2)), (3, .long (yl v3))] [] M (f_Series_firstRow_105 O f v0 v1 v2 v3 M) := by
  unfold f_Series_firstRow_105
  refine xZ.adv (me := xm121) hP_121 2 (pc' := 108) (lv' := [(6, .int (0 : Int32)), (0, .ref v0), (1, .ref v1), (2, .int (yw v2)), (3, .long (yl v3))]) (st' := []) rfl ?_
  refine xZ.eqs (lv2 := [(6, .int (yw 0)), (0, .ref v0), (1, .ref v1), (2, .int (yw v2)), (3, .long (yl v3))]) (st2 := []) (by simp only [yl_lit, yL_lit, yw_add, yw_sub, yw_mul, yw_neg, yl_add, yl_sub, yl_mul, cj_and, cj_or, cj_xor, cj_shl, cj_shr, cj_ushr, cj_div, cj_i2c, cj_i2b, cj_dc, ck_and, ck_or, ck_xor, ck_shl, ck_shr, ck_ushr, ck_i2l, ck_l2i, ck_cmp]) rfl ?_
  exact xZ.sub (xsc (.tail _ (.head _)) (xsc (.tail _ (.tail _ (.head _))) (xsc (.tail _ (.tail _ (.tail _ (.head _)))) (xsc (.tail _ (.tail _ (.tail _ (.tail _ (.head _))))) (xsc (.head _) xsn))))) (show ([6, 0, 1, 2, 3] : List Nat).Nodup from by decide) (k_f_Series_firstRow_108 O f d f v0 v1 v2 v3 0 M)
def f_Series_firstRow_86 (O : Nat → Option va_E) (f : Nat) (K22 : Nat → Nat → Int → Int → Int → Int → xM → Option (Int × xM)) (v0 : Nat) (v1 : Nat) (v2 : Int) (v3 : Int) (v5 : Int) (v6 : Int) (M : xM) : Option (Int × xM) :=
  (gR O M v0 10 6).bind fun x1 =>
  (isO O M x1 9).bind fun _ =>
  xcl (f_Rule_next O f x1 (v5 + 1) M) fun x2 M1 =>
  K22 v0 v1 v2 v3 x2 (v6 + 1) M1
set_option maxRecDepth 20000 in
theorem k_f_Series_firstRow_86 (O : Nat → Option va_E) (f d : Nat) (K22 : Nat → Nat → Int → Int → Int → Int → xM → Option (Int × xM)) (hK22 : ∀ (v0 : Nat) (v1 : Nat) (v2 : Int) (v3 : Int) (v5 : Int) (v6 : Int) M, xZ oK O (d + 5) 121 22 [(0, .ref v0), (1, .ref v1), (2, .int (yw v2)), (3, .long (yl v3)), (5, .int (yw v5)), (6, .int (yw v6))] [] M (K22 v0 v1 v2 v3 v5 v6 M)) (v0 : Nat) (v1 : Nat) (v2 : Int) (v3 : Int) (v5 : Int) (v6 : Int) (M : xM) : xZ oK O (d + 5) 121 86 [(0, .ref v0), (1, .ref v1), (2, .int (yw v2)), (3, .long (yl v3)), (5, .int (yw v5)), (6, .int (yw v6))] [] M (f_Series_firstRow_86 O f K22 v0 v1 v2 v3 v5 v6 M) := by
  unfold f_Series_firstRow_86
  refine xZ.adv (me := xm121) hP_121 1 (pc' := 87) (lv' := [(0, .ref v0), (1, .ref v1), (2, .int (yw v2)), (3, .long (yl v3)), (5, .int (yw v5)), (6, .int (yw v6))]) (st' := [.ref v0]) rfl ?_
  refine xZ.k_gR (me := xm121) hP_121 rfl (fun x1 => ?_)
  refine xZ.adv (me := xm121) hP_121 3 (pc' := 94) (lv' := [(0, .ref v0), (1, .ref v1), (2, .int (yw v2)), (3, .long (yl v3)), (5, .int (yw v5)), (6, .int (yw v6))]) (st' := [.int ((yw v5) + (1 : Int32)), .ref x1]) rfl ?_
  refine xZ.eqs (lv2 := [(0, .ref v0), (1, .ref v1), (2, .int (yw v2)), (3, .long (yl v3)), (5, .int (yw v5)), (6, .int (yw v6))]) (st2 := [.int (yw (v5 + 1)), .ref x1]) rfl (by simp only [yl_lit, yL_lit, yw_add, yw_sub, yw_mul, yw_neg, yl_add, yl_sub, yl_mul, cj_and, cj_or, cj_xor, cj_shl, cj_shr, cj_ushr, cj_div, cj_i2c, cj_i2b, cj_dc, ck_and, ck_or, ck_xor, ck_shl, ck_shr, ck_ushr, ck_i2l, ck_l2i, ck_cmp]) ?_
  refine xZ.callv (κ := oJ) (av := [.int (yw (v5 + 1))]) (rest := []) (st' := fun x2 => [.int (yw x2)]) (k0 := x1) (me := xm121) hP_121 rfl (Or.inl rfl) ⟨rfl, by decide⟩ rfl rfl (Nat.le_of_ble_eq_true rfl) (by decide) hP_45 (Nat.le_of_ble_eq_true rfl) (fun _ => rfl) (k_f_Rule_next O f (d + 0) x1 (v5 + 1) M) (fun x2 M1 => ?_)
  refine xZ.adv (me := xm121) hP_121 3 (pc' := 22) (lv' := [(6, .int ((yw v6) + (1 : Int32))), (5, .int (yw x2)), (0, .ref v0), (1, .ref v1), (2, .int (yw v2)), (3, .long (yl v3))]) (st' := []) rfl ?_
  refine xZ.eqs (lv2 := [(6, .int (yw (v6 + 1))), (5, .int (yw x2)), (0, .ref v0), (1, .ref v1), (2, .int (yw v2)), (3, .long (yl v3))]) (st2 := []) (by simp only [yl_lit, yL_lit, yw_add, yw_sub, yw_mul, yw_neg, yl_add, yl_sub, yl_mul, cj_and, cj_or, cj_xor, cj_shl, cj_shr, cj_ushr, cj_div, cj_i2c, cj_i2b, cj_dc, ck_and, ck_or, ck_xor, ck_shl, ck_shr, ck_ushr, ck_i2l, ck_l2i, ck_cmp]) rfl ?_
  exact xZ.sub (xsc (.tail _ (.tail _ (.head _))) (xsc (.tail _ (.tail _ (.tail _ (.head _)))) (xsc (.tail _ (.tail _ (.tail _ (.tail _ (.head _))))) (xsc (.tail _ (.tail _ (.tail _ (.tail _ (.tail _ (.head _)))))) (xsc (.tail _ (.head _)) (xsc (.head _) xsn)))))) (show ([6, 5, 0, 1, 2, 3] : List Nat).Nodup from by decide) (hK22 v0 v1 v2 v3 x2 (v6 + 1) M1)
def f_Series_firstRow_22 (O : Nat → Option va_E) (f : Nat) : Nat → Nat → Nat → Int → Int → Int → Int → xM → Option (Int × xM)
  | 0, _, _, _, _, _, _, _ => none
  | n + 1, v0, v1, v2, v3, v5, v6, M =>
    if yw 12 < yw v6 then (
      f_Series_firstRow_105 O f v0 v1 v2 v3 M
    ) else
    if yw v5 = yw (-1) then (
      f_Series_firstRow_105 O f v0 v1 v2 v3 M
    ) else
    if yw (kcmp v3 (-1)) = yw 0 then (
      (gJ O M v0 10 2).bind fun x1 =>
      (isO O M v1 11).bind fun _ =>
      xcl (f_Zone_commonOf O f v1 ((v5 * 1440) + x1) M) fun x2 M1 =>
      if yw x2 < yw v2 then (
        f_Series_firstRow_86 O f (f_Series_firstRow_22 O f n) v0 v1 v2 v3 v5 v6 M1
      ) else
      (isO O M1 v0 10).bind fun _ =>
      xcl (f_Series_exceptionOf O f v0 v5 M1) fun x3 M2 =>
      if yw x3 = yw (-1) then (
        xcl (f_Dates_row O f x2 0 v5 0 M2) fun x4 M3 =>
        f_Series_firstRow_86 O f (f_Series_firstRow_22 O f n) v0 v1 v2 x4 v5 v6 M3
      ) else
      f_Series_firstRow_86 O f (f_Series_firstRow_22 O f n) v0 v1 v2 v3 v5 v6 M2
    ) else
    f_Series_firstRow_105 O f v0 v1 v2 v3 M
set_option maxRecDepth 20000 in
theorem k_f_Series_firstRow_22 (O : Nat → Option va_E) (f d : Nat) : ∀ (n : Nat) (v0 : Nat) (v1 : Nat) (v2 : Int) (v3 : Int) (v5 : Int) (v6 : Int) (M : xM), xZ oK O (d + 5) 121 22 [(0, .ref v0), (1, .ref v1), (2, .int (yw v2)), (3, .long (yl v3)), (5, .int (yw v5)), (6, .int (yw v6))] [] M (f_Series_firstRow_22 O f n v0 v1 v2 v3 v5 v6 M) := by
  intro n
  induction n with
  | zero =>
    intro v0 v1 v2 v3 v5 v6 M
    exact xZ.no
  | succ n ih =>
    intro v0 v1 v2 v3 v5 v6 M
    unfold f_Series_firstRow_22
    refine xZ.adv (me := xm121) hP_121 2 (pc' := 26) (lv' := [(0, .ref v0), (1, .ref v1), (2, .int (yw v2)), (3, .long (yl v3)), (5, .int (yw v5)), (6, .int (yw v6))]) (st' := [.int (12 : Int32), .int (yw v6)]) rfl ?_
    refine xZ.eqs (lv2 := [(0, .ref v0), (1, .ref v1), (2, .int (yw v2)), (3, .long (yl v3)), (5, .int (yw v5)), (6, .int (yw v6))]) (st2 := [.int (yw 12), .int (yw v6)]) rfl (by simp only [yl_lit, yL_lit, yw_add, yw_sub, yw_mul, yw_neg, yl_add, yl_sub, yl_mul, cj_and, cj_or, cj_xor, cj_shl, cj_shr, cj_ushr, cj_div, cj_i2c, cj_i2b, cj_dc, ck_and, ck_or, ck_xor, ck_shl, ck_shr, ck_ushr, ck_i2l, ck_l2i, ck_cmp]) ?_
    refine xZ.jc_gt (me := xm121) hP_121 rfl (fun h1 => ?_) (fun h1 => ?_)
    · skip
      exact xZ.sub (xsc (.head _) (xsc (.tail _ (.head _)) (xsc (.tail _ (.tail _ (.head _))) (xsc (.tail _ (.tail _ (.tail _ (.head _)))) xsn)))) (show ([0, 1, 2, 3, 5, 6] : List Nat).Nodup from by decide) (k_f_Series_firstRow_105 O f d v0 v1 v2 v3 M)
    · skip
      refine xZ.adv (me := xm121) hP_121 2 (pc' := 32) (lv' := [(0, .ref v0), (1, .ref v1), (2, .int (yw v2)), (3, .long (yl v3)), (5, .int (yw v5)), (6, .int (yw v6))]) (st' := [.int (-1 : Int32), .int (yw v5)]) rfl ?_
      refine xZ.eqs (lv2 := [(0, .ref v0), (1, .ref v1), (2, .int (yw v2)), (3, .long (yl v3)), (5, .int (yw v5)), (6, .int (yw v6))]) (st2 := [.int (yw (-1)), .int (yw v5)]) rfl (by simp only [yl_lit, yL_lit, yw_add, yw_sub, yw_mul, yw_neg, yl_add, yl_sub, yl_mul, cj_and, cj_or, cj_xor, cj_shl, cj_shr, cj_ushr, cj_div, cj_i2c, cj_i2b, cj_dc, ck_and, ck_or, ck_xor, ck_shl, ck_shr, ck_ushr, ck_i2l, ck_l2i, ck_cmp]) ?_
      refine xZ.jc_eq (me := xm121) hP_121 rfl (fun h2 => ?_) (fun h2 => ?_)
      · skip
        exact xZ.sub (xsc (.head _) (xsc (.tail _ (.head _)) (xsc (.tail _ (.tail _ (.head _))) (xsc (.tail _ (.tail _ (.tail _ (.head _)))) xsn)))) (show ([0, 1, 2, 3, 5, 6] : List Nat).Nodup from by decide) (k_f_Series_firstRow_105 O f d v0 v1 v2 v3 M)
      · skip
        refine xZ.adv (me := xm121) hP_121 3 (pc' := 40) (lv' := [(0, .ref v0), (1, .ref v1), (2, .int (yw v2)), (3, .long (yl v3)), (5, .int (yw v5)), (6, .int (yw v6))]) (st' := [.int (lg_cmp (yl v3) (-1 : Int64))]) rfl ?_
        refine xZ.eqs (lv2 := [(0, .ref v0), (1, .ref v1), (2, .int (yw v2)), (3, .long (yl v3)), (5, .int (yw v5)), (6, .int (yw v6))]) (st2 := [.int (yw (kcmp v3 (-1)))]) rfl (by simp only [yl_lit, yL_lit, yw_add, yw_sub, yw_mul, yw_neg, yl_add, yl_neg, yl_sub, yl_mul, cj_and, cj_or, cj_xor, cj_shl, cj_shr, cj_ushr, cj_div, cj_i2c, cj_i2b, cj_dc, ck_and, ck_or, ck_xor, ck_shl, ck_shr, ck_ushr, ck_i2l, ck_l2i, ck_cmp]) ?_
        refine xZ.jf_ne (me := xm121) hP_121 rfl (fun h3 => ?_) (fun h3 => ?_)
        · skip
          refine xZ.adv (me := xm121) hP_121 5 (pc' := 51) (lv' := [(0, .ref v0), (1, .ref v1), (2, .int (yw v2)), (3, .long (yl v3)), (5, .int (yw v5)), (6, .int (yw v6))]) (st' := [.ref v0, .int ((yw v5) * (1440 : Int32)), .ref v1]) rfl ?_
          refine xZ.eqs (lv2 := [(0, .ref v0), (1, .ref v1), (2, .int (yw v2)), (3, .long (yl v3)), (5, .int (yw v5)), (6, .int (yw v6))]) (st2 := [.ref v0, .int (yw (v5 * 1440)), .ref v1]) rfl (by simp only [yl_lit, yL_lit, yw_add, yw_sub, yw_mul, yw_neg, yl_add, yl_sub, yl_mul, cj_and, cj_or, cj_xor, cj_shl, cj_shr, cj_ushr, cj_div, cj_i2c, cj_i2b, cj_dc, ck_and, ck_or, ck_xor, ck_shl, ck_shr, ck_ushr, ck_i2l, ck_l2i, ck_cmp]) ?_
          refine xZ.k_gJ (me := xm121) hP_121 rfl (fun x1 => ?_)
          refine xZ.adv (me := xm121) hP_121 1 (pc' := 55) (lv' := [(0, .ref v0), (1, .ref v1), (2, .int (yw v2)), (3, .long (yl v3)), (5, .int (yw v5)), (6, .int (yw v6))]) (st' := [.int ((yw (v5 * 1440)) + (yw x1)), .ref v1]) rfl ?_
          refine xZ.eqs (lv2 := [(0, .ref v0), (1, .ref v1), (2, .int (yw v2)), (3, .long (yl v3)), (5, .int (yw v5)), (6, .int (yw v6))]) (st2 := [.int (yw ((v5 * 1440) + x1)), .ref v1]) rfl (by simp only [yl_lit, yL_lit, yw_add, yw_sub, yw_mul, yw_neg, yl_add, yl_sub, yl_mul, cj_and, cj_or, cj_xor, cj_shl, cj_shr, cj_ushr, cj_div, cj_i2c, cj_i2b, cj_dc, ck_and, ck_or, ck_xor, ck_shl, ck_shr, ck_ushr, ck_i2l, ck_l2i, ck_cmp]) ?_
          refine xZ.callv (κ := oJ) (av := [.int (yw ((v5 * 1440) + x1))]) (rest := []) (st' := fun x2 => [.int (yw x2)]) (k0 := v1) (me := xm121) hP_121 rfl (Or.inl rfl) ⟨rfl, by decide⟩ rfl rfl (Nat.le_of_ble_eq_true rfl) (by decide) hP_105 (Nat.le_of_ble_eq_true rfl) (fun _ => rfl) (k_f_Zone_commonOf O f (d + 1) v1 ((v5 * 1440) + x1) M) (fun x2 M1 => ?_)
          refine xZ.adv (me := xm121) hP_121 3 (pc' := 63) (lv' := [(7, .int (yw x2)), (0, .ref v0), (1, .ref v1), (2, .int (yw v2)), (3, .long (yl v3)), (5, .int (yw v5)), (6, .int (yw v6))]) (st' := [.int (yw v2), .int (yw x2)]) rfl ?_
          refine xZ.jc_lt (me := xm121) hP_121 rfl (fun h4 => ?_) (fun h4 => ?_)
          · skip
            exact xZ.sub (xsc (.tail _ (.head _)) (xsc (.tail _ (.tail _ (.head _))) (xsc (.tail _ (.tail _ (.tail _ (.head _)))) (xsc (.tail _ (.tail _ (.tail _ (.tail _ (.head _))))) (xsc (.tail _ (.tail _ (.tail _ (.tail _ (.tail _ (.head _)))))) (xsc (.tail _ (.tail _ (.tail _ (.tail _ (.tail _ (.tail _ (.head _))))))) xsn)))))) (show ([7, 0, 1, 2, 3, 5, 6] : List Nat).Nodup from by decide) (k_f_Series_firstRow_86 O f d (f_Series_firstRow_22 O f n) ih v0 v1 v2 v3 v5 v6 M1)
          · skip
            refine xZ.adv (me := xm121) hP_121 2 (pc' := 69) (lv' := [(7, .int (yw x2)), (0, .ref v0), (1, .ref v1), (2, .int (yw v2)), (3, .long (yl v3)), (5, .int (yw v5)), (6, .int (yw v6))]) (st' := [.int (yw v5), .ref v0]) rfl ?_
            refine xZ.callv (κ := oJ) (av := [.int (yw v5)]) (rest := []) (st' := fun x3 => [.int (yw x3)]) (k0 := v0) (me := xm121) hP_121 rfl (Or.inl rfl) ⟨rfl, by decide⟩ rfl rfl (Nat.le_of_ble_eq_true rfl) (by decide) hP_104 (Nat.le_of_ble_eq_true rfl) (fun _ => rfl) (k_f_Series_exceptionOf O f (d + 4) v0 v5 M1) (fun x3 M2 => ?_)
            refine xZ.adv (me := xm121) hP_121 1 (pc' := 73) (lv' := [(7, .int (yw x2)), (0, .ref v0), (1, .ref v1), (2, .int (yw v2)), (3, .long (yl v3)), (5, .int (yw v5)), (6, .int (yw v6))]) (st' := [.int (-1 : Int32), .int (yw x3)]) rfl ?_
            refine xZ.eqs (lv2 := [(7, .int (yw x2)), (0, .ref v0), (1, .ref v1), (2, .int (yw v2)), (3, .long (yl v3)), (5, .int (yw v5)), (6, .int (yw v6))]) (st2 := [.int (yw (-1)), .int (yw x3)]) rfl (by simp only [yl_lit, yL_lit, yw_add, yw_sub, yw_mul, yw_neg, yl_add, yl_sub, yl_mul, cj_and, cj_or, cj_xor, cj_shl, cj_shr, cj_ushr, cj_div, cj_i2c, cj_i2b, cj_dc, ck_and, ck_or, ck_xor, ck_shl, ck_shr, ck_ushr, ck_i2l, ck_l2i, ck_cmp]) ?_
            refine xZ.jc_ne (me := xm121) hP_121 rfl (fun h5 => ?_) (fun h5 => ?_)
            · skip
              refine xZ.adv (me := xm121) hP_121 4 (pc' := 82) (lv' := [(7, .int (yw x2)), (0, .ref v0), (1, .ref v1), (2, .int (yw v2)), (3, .long (yl v3)), (5, .int (yw v5)), (6, .int (yw v6))]) (st' := [.int (0 : Int32), .int (yw v5), .int (0 : Int32), .int (yw x2)]) rfl ?_
              refine xZ.eqs (lv2 := [(7, .int (yw x2)), (0, .ref v0), (1, .ref v1), (2, .int (yw v2)), (3, .long (yl v3)), (5, .int (yw v5)), (6, .int (yw v6))]) (st2 := [.int (yw 0), .int (yw v5), .int (yw 0), .int (yw x2)]) rfl (by simp only [yl_lit, yL_lit, yw_add, yw_sub, yw_mul, yw_neg, yl_add, yl_sub, yl_mul, cj_and, cj_or, cj_xor, cj_shl, cj_shr, cj_ushr, cj_div, cj_i2c, cj_i2b, cj_dc, ck_and, ck_or, ck_xor, ck_shl, ck_shr, ck_ushr, ck_i2l, ck_l2i, ck_cmp]) ?_
              refine xZ.calls (κ := oK) (av := [.int (yw x2), .int (yw 0), .int (yw v5), .int (yw 0)]) (rest := []) (st' := fun x4 => [.long (yl x4)]) (me := xm121) hP_121 rfl rfl rfl (Nat.le_of_ble_eq_true rfl) (by decide) hP_122 (Nat.le_of_ble_eq_true rfl) (fun _ => rfl) (k_f_Dates_row O f (d + 4) x2 0 v5 0 M2) (fun x4 M3 => ?_)
              refine xZ.adv (me := xm121) hP_121 1 (pc' := 86) (lv' := [(3, .long (yl x4)), (7, .int (yw x2)), (0, .ref v0), (1, .ref v1), (2, .int (yw v2)), (5, .int (yw v5)), (6, .int (yw v6))]) (st' := []) rfl ?_
              exact xZ.sub (xsc (.tail _ (.tail _ (.head _))) (xsc (.tail _ (.tail _ (.tail _ (.head _)))) (xsc (.tail _ (.tail _ (.tail _ (.tail _ (.head _))))) (xsc (.head _) (xsc (.tail _ (.tail _ (.tail _ (.tail _ (.tail _ (.head _)))))) (xsc (.tail _ (.tail _ (.tail _ (.tail _ (.tail _ (.tail _ (.head _))))))) xsn)))))) (show ([3, 7, 0, 1, 2, 5, 6] : List Nat).Nodup from by decide) (k_f_Series_firstRow_86 O f d (f_Series_firstRow_22 O f n) ih v0 v1 v2 x4 v5 v6 M3)
            · skip
              exact xZ.sub (xsc (.tail _ (.head _)) (xsc (.tail _ (.tail _ (.head _))) (xsc (.tail _ (.tail _ (.tail _ (.head _)))) (xsc (.tail _ (.tail _ (.tail _ (.tail _ (.head _))))) (xsc (.tail _ (.tail _ (.tail _ (.tail _ (.tail _ (.head _)))))) (xsc (.tail _ (.tail _ (.tail _ (.tail _ (.tail _ (.tail _ (.head _))))))) xsn)))))) (show ([7, 0, 1, 2, 3, 5, 6] : List Nat).Nodup from by decide) (k_f_Series_firstRow_86 O f d (f_Series_firstRow_22 O f n) ih v0 v1 v2 v3 v5 v6 M2)
        · skip
          exact xZ.sub (xsc (.head _) (xsc (.tail _ (.head _)) (xsc (.tail _ (.tail _ (.head _))) (xsc (.tail _ (.tail _ (.tail _ (.head _)))) xsn)))) (show ([0, 1, 2, 3, 5, 6] : List Nat).Nodup from by decide) (k_f_Series_firstRow_105 O f d v0 v1 v2 v3 M)
def f_Series_firstRow (O : Nat → Option va_E) (f : Nat) (v0 : Nat) (v1 : Nat) (v2 : Int) (M : xM) : Option (Int × xM) :=
  (gR O M v0 10 6).bind fun x1 =>
  (isO O M v0 10).bind fun _ =>
  xcl (f_Series_earliestDay O f v0 v1 v2 M) fun x2 M1 =>
  (isO O M1 x1 9).bind fun _ =>
  xcl (f_Rule_next O f x1 x2 M1) fun x3 M2 =>
  f_Series_firstRow_22 O f f v0 v1 v2 (-1) x3 0 M2
set_option maxRecDepth 20000 in
theorem k_f_Series_firstRow (O : Nat → Option va_E) (f d : Nat) (v0 : Nat) (v1 : Nat) (v2 : Int) (M : xM) : xZ oK O (d + 5) 121 0 [(0, .ref v0), (1, .ref v1), (2, .int (yw v2))] [] M (f_Series_firstRow O f v0 v1 v2 M) := by
  unfold f_Series_firstRow
  refine xZ.adv (me := xm121) hP_121 3 (pc' := 5) (lv' := [(3, .long (-1 : Int64)), (0, .ref v0), (1, .ref v1), (2, .int (yw v2))]) (st' := [.ref v0]) rfl ?_
  refine xZ.eqs (lv2 := [(3, .long (yl (-1))), (0, .ref v0), (1, .ref v1), (2, .int (yw v2))]) (st2 := [.ref v0]) (by simp only [yl_lit, yL_lit, yw_add, yw_sub, yw_mul, yw_neg, yl_add, yl_neg, yl_sub, yl_mul, cj_and, cj_or, cj_xor, cj_shl, cj_shr, cj_ushr, cj_div, cj_i2c, cj_i2b, cj_dc, ck_and, ck_or, ck_xor, ck_shl, ck_shr, ck_ushr, ck_i2l, ck_l2i, ck_cmp]) rfl ?_
  refine xZ.k_gR (me := xm121) hP_121 rfl (fun x1 => ?_)
  refine xZ.adv (me := xm121) hP_121 3 (pc' := 11) (lv' := [(3, .long (yl (-1))), (0, .ref v0), (1, .ref v1), (2, .int (yw v2))]) (st' := [.int (yw v2), .ref v1, .ref v0, .ref x1]) rfl ?_
  refine xZ.callv (κ := oJ) (av := [.ref v1, .int (yw v2)]) (rest := [.ref x1]) (st' := fun x2 => [.int (yw x2), .ref x1]) (k0 := v0) (me := xm121) hP_121 rfl (Or.inl rfl) ⟨rfl, by decide⟩ rfl rfl (Nat.le_of_ble_eq_true rfl) (by decide) hP_118 (Nat.le_of_ble_eq_true rfl) (fun _ => rfl) (k_f_Series_earliestDay O f (d + 4) v0 v1 v2 M) (fun x2 M1 => ?_)
  refine xZ.callv (κ := oJ) (av := [.int (yw x2)]) (rest := []) (st' := fun x3 => [.int (yw x3)]) (k0 := x1) (me := xm121) hP_121 rfl (Or.inl rfl) ⟨rfl, by decide⟩ rfl rfl (Nat.le_of_ble_eq_true rfl) (by decide) hP_45 (Nat.le_of_ble_eq_true rfl) (fun _ => rfl) (k_f_Rule_next O f (d + 0) x1 x2 M1) (fun x3 M2 => ?_)
  refine xZ.adv (me := xm121) hP_121 3 (pc' := 22) (lv' := [(6, .int (0 : Int32)), (5, .int (yw x3)), (3, .long (yl (-1))), (0, .ref v0), (1, .ref v1), (2, .int (yw v2))]) (st' := []) rfl ?_
  refine xZ.eqs (lv2 := [(6, .int (yw 0)), (5, .int (yw x3)), (3, .long (yl (-1))), (0, .ref v0), (1, .ref v1), (2, .int (yw v2))]) (st2 := []) (by simp only [yl_lit, yL_lit, yw_add, yw_sub, yw_mul, yw_neg, yl_add, yl_sub, yl_mul, cj_and, cj_or, cj_xor, cj_shl, cj_shr, cj_ushr, cj_div, cj_i2c, cj_i2b, cj_dc, ck_and, ck_or, ck_xor, ck_shl, ck_shr, ck_ushr, ck_i2l, ck_l2i, ck_cmp]) rfl ?_
  exact xZ.sub (xsc (.tail _ (.tail _ (.tail _ (.head _)))) (xsc (.tail _ (.tail _ (.tail _ (.tail _ (.head _))))) (xsc (.tail _ (.tail _ (.tail _ (.tail _ (.tail _ (.head _)))))) (xsc (.tail _ (.tail _ (.head _))) (xsc (.tail _ (.head _)) (xsc (.head _) xsn)))))) (show ([6, 5, 3, 0, 1, 2] : List Nat).Nodup from by decide) (k_f_Series_firstRow_22 O f d f v0 v1 v2 (-1) x3 0 M2)
def f_Dates_dayIn (O : Nat → Option va_E) (f : Nat) (v0 : Int) (M : xM) : Option (Int × xM) :=
  some ((jand (kshr v0 (kand (ki2l 1) 63)) 262143), M)
set_option maxRecDepth 20000 in
theorem k_f_Dates_dayIn (O : Nat → Option va_E) (f d : Nat) (v0 : Int) (M : xM) : xZ oJ O (d + 0) 123 0 [(0, .long (yl v0))] [] M (f_Dates_dayIn O f v0 M) := by
  unfold f_Dates_dayIn
  refine xZ.adv (me := xm123) hP_123 6 (pc' := 7) (lv' := [(0, .long (yl v0))]) (st' := [.int ((Int64.toInt32 ((yl v0) >>> (Int32.toInt64 (1 : Int32) &&& 63))) &&& (262143 : Int32))]) rfl ?_
  refine xZ.eqs (lv2 := [(0, .long (yl v0))]) (st2 := [.int (yw (jand (kshr v0 (kand (ki2l 1) 63)) 262143))]) rfl (by simp only [yl_lit, yL_lit, yw_add, yw_sub, yw_mul, yw_neg, yl_add, yl_sub, yl_mul, cj_and, cj_or, cj_xor, cj_shl, cj_shr, cj_ushr, cj_div, cj_i2c, cj_i2b, cj_dc, ck_and, ck_or, ck_xor, ck_shl, ck_shr, ck_ushr, ck_i2l, ck_l2i, ck_cmp]) ?_
  exact xZ.jreti (me := xm123) hP_123 rfl rfl
def f_Calendarhall_nextDate (O : Nat → Option va_E) (f : Nat) (v0 : Nat) (v1 : Int) (v2 : Int) (M : xM) : Option (Int × xM) :=
  (isO O M v0 12).bind fun _ =>
  xcl (f_Calendarhall_seriesNumbered O f v0 v1 M) fun x1 M1 =>
  xcl (f_Calendarhall_needMinute O f v2 M1) fun _ M2 =>
  (gR O M2 v0 12 0).bind fun x3 =>
  (isO O M2 x3 4).bind fun _ =>
  xcl (f_Hall_zoneOf O f x3 x1 M2) fun x4 M3 =>
  (isO O M3 x1 10).bind fun _ =>
  xcl (f_Series_firstRow O f x1 x4 v2 M3) fun x5 M4 =>
  if yw (kcmp x5 (-1)) = yw 0 then (
    some ((-1), M4)
  ) else
  xcl (f_Dates_dayIn O f x5 M4) fun x6 M5 =>
  some (x6, M5)
set_option maxRecDepth 20000 in
theorem k_f_Calendarhall_nextDate (O : Nat → Option va_E) (f d : Nat) (v0 : Nat) (v1 : Int) (v2 : Int) (M : xM) : xZ oJ O (d + 6) 120 0 [(0, .ref v0), (1, .int (yw v1)), (2, .int (yw v2))] [] M (f_Calendarhall_nextDate O f v0 v1 v2 M) := by
  unfold f_Calendarhall_nextDate
  refine xZ.adv (me := xm120) hP_120 2 (pc' := 2) (lv' := [(0, .ref v0), (1, .int (yw v1)), (2, .int (yw v2))]) (st' := [.int (yw v1), .ref v0]) rfl ?_
  refine xZ.callv (κ := oR) (av := [.int (yw v1)]) (rest := []) (st' := fun x1 => [.ref x1]) (k0 := v0) (me := xm120) hP_120 rfl (Or.inl rfl) ⟨rfl, by decide⟩ rfl rfl (Nat.le_of_ble_eq_true rfl) (by decide) hP_79 (Nat.le_of_ble_eq_true rfl) (fun _ => rfl) (k_f_Calendarhall_seriesNumbered O f (d + 4) v0 v1 M) (fun x1 M1 => ?_)
  refine xZ.adv (me := xm120) hP_120 2 (pc' := 7) (lv' := [(3, .ref x1), (0, .ref v0), (1, .int (yw v1)), (2, .int (yw v2))]) (st' := [.int (yw v2)]) rfl ?_
  refine xZ.calls (κ := oU) (av := [.int (yw v2)]) (rest := []) (st' := fun _ => []) (me := xm120) hP_120 rfl rfl rfl (Nat.le_of_ble_eq_true rfl) (by decide) hP_115 (Nat.le_of_ble_eq_true rfl) (fun _ => rfl) (k_f_Calendarhall_needMinute O f (d + 5) v2 M1) (fun _ M2 => ?_)
  refine xZ.adv (me := xm120) hP_120 2 (pc' := 12) (lv' := [(3, .ref x1), (0, .ref v0), (1, .int (yw v1)), (2, .int (yw v2))]) (st' := [.ref v0, .ref x1]) rfl ?_
  refine xZ.k_gR (me := xm120) hP_120 rfl (fun x3 => ?_)
  refine xZ.adv (me := xm120) hP_120 1 (pc' := 16) (lv' := [(3, .ref x1), (0, .ref v0), (1, .int (yw v1)), (2, .int (yw v2))]) (st' := [.ref x1, .ref x3, .ref x1]) rfl ?_
  refine xZ.callv (κ := oR) (av := [.ref x1]) (rest := [.ref x1]) (st' := fun x4 => [.ref x4, .ref x1]) (k0 := x3) (me := xm120) hP_120 rfl (Or.inl rfl) ⟨rfl, by decide⟩ rfl rfl (Nat.le_of_ble_eq_true rfl) (by decide) hP_102 (Nat.le_of_ble_eq_true rfl) (fun _ => rfl) (k_f_Hall_zoneOf O f (d + 4) x3 x1 M2) (fun x4 M3 => ?_)
  refine xZ.adv (me := xm120) hP_120 1 (pc' := 20) (lv' := [(3, .ref x1), (0, .ref v0), (1, .int (yw v1)), (2, .int (yw v2))]) (st' := [.int (yw v2), .ref x4, .ref x1]) rfl ?_
  refine xZ.callv (κ := oK) (av := [.ref x4, .int (yw v2)]) (rest := []) (st' := fun x5 => [.long (yl x5)]) (k0 := x1) (me := xm120) hP_120 rfl (Or.inl rfl) ⟨rfl, by decide⟩ rfl rfl (Nat.le_of_ble_eq_true rfl) (by decide) hP_121 (Nat.le_of_ble_eq_true rfl) (fun _ => rfl) (k_f_Series_firstRow O f (d + 0) x1 x4 v2 M3) (fun x5 M4 => ?_)
  refine xZ.adv (me := xm120) hP_120 4 (pc' := 31) (lv' := [(4, .long (yl x5)), (3, .ref x1), (0, .ref v0), (1, .int (yw v1)), (2, .int (yw v2))]) (st' := [.int (lg_cmp (yl x5) (-1 : Int64))]) rfl ?_
  refine xZ.eqs (lv2 := [(4, .long (yl x5)), (3, .ref x1), (0, .ref v0), (1, .int (yw v1)), (2, .int (yw v2))]) (st2 := [.int (yw (kcmp x5 (-1)))]) rfl (by simp only [yl_lit, yL_lit, yw_add, yw_sub, yw_mul, yw_neg, yl_add, yl_neg, yl_sub, yl_mul, cj_and, cj_or, cj_xor, cj_shl, cj_shr, cj_ushr, cj_div, cj_i2c, cj_i2b, cj_dc, ck_and, ck_or, ck_xor, ck_shl, ck_shr, ck_ushr, ck_i2l, ck_l2i, ck_cmp]) ?_
  refine xZ.jf_ne (me := xm120) hP_120 rfl (fun h1 => ?_) (fun h1 => ?_)
  · skip
    refine xZ.adv (me := xm120) hP_120 2 (pc' := 43) (lv' := [(4, .long (yl x5)), (3, .ref x1), (0, .ref v0), (1, .int (yw v1)), (2, .int (yw v2))]) (st' := [.int (-1 : Int32)]) rfl ?_
    refine xZ.eqs (lv2 := [(4, .long (yl x5)), (3, .ref x1), (0, .ref v0), (1, .int (yw v1)), (2, .int (yw v2))]) (st2 := [.int (yw (-1))]) rfl (by simp only [yl_lit, yL_lit, yw_add, yw_sub, yw_mul, yw_neg, yl_add, yl_sub, yl_mul, cj_and, cj_or, cj_xor, cj_shl, cj_shr, cj_ushr, cj_div, cj_i2c, cj_i2b, cj_dc, ck_and, ck_or, ck_xor, ck_shl, ck_shr, ck_ushr, ck_i2l, ck_l2i, ck_cmp]) ?_
    exact xZ.jreti (me := xm120) hP_120 rfl rfl
  · skip
    refine xZ.adv (me := xm120) hP_120 1 (pc' := 40) (lv' := [(4, .long (yl x5)), (3, .ref x1), (0, .ref v0), (1, .int (yw v1)), (2, .int (yw v2))]) (st' := [.long (yl x5)]) rfl ?_
    refine xZ.calls (κ := oJ) (av := [.long (yl x5)]) (rest := []) (st' := fun x6 => [.int (yw x6)]) (me := xm120) hP_120 rfl rfl rfl (Nat.le_of_ble_eq_true rfl) (by decide) hP_123 (Nat.le_of_ble_eq_true rfl) (fun _ => rfl) (k_f_Dates_dayIn O f (d + 5) x5 M4) (fun x6 M5 => ?_)
    exact xZ.jreti (me := xm120) hP_120 rfl rfl
def f_Calendarhall_undo_87 (O : Nat → Option va_E) (f : Nat) (v0 : Nat) (M : xM) : Option (Int × xM) :=
  (gJ O M v0 12 3).bind fun x1 =>
  some (x1, M)
set_option maxRecDepth 20000 in
theorem k_f_Calendarhall_undo_87 (O : Nat → Option va_E) (f d : Nat) (v0 : Nat) (M : xM) : xZ oJ O (d + 4) 124 87 [(0, .ref v0)] [] M (f_Calendarhall_undo_87 O f v0 M) := by
  unfold f_Calendarhall_undo_87
  refine xZ.adv (me := xm124) hP_124 1 (pc' := 88) (lv' := [(0, .ref v0)]) (st' := [.ref v0]) rfl ?_
  refine xZ.k_gJ (me := xm124) hP_124 rfl (fun x1 => ?_)
  exact xZ.jreti (me := xm124) hP_124 rfl rfl
def f_Calendarhall_undo_74 (O : Nat → Option va_E) (f : Nat) (v0 : Nat) (s0 : Option Nat) (M : xM) : Option (Int × xM) :=
  Option.elim s0 (
    f_Calendarhall_undo_87 O f v0 M
  ) fun x1 =>
    (gR O M v0 12 0).bind fun x2 =>
    (isO O M x2 4).bind fun _ =>
    xcl (f_Hall_copyFrom O f x2 x1 M) fun _ M1 =>
    f_Calendarhall_undo_87 O f v0 M1
set_option maxRecDepth 20000 in
theorem k_f_Calendarhall_undo_74 (O : Nat → Option va_E) (f d : Nat) (v0 : Nat) (s0 : Option Nat) (M : xM) : xZ oJ O (d + 4) 124 74 [(0, .ref v0)] [va_rf s0] M (f_Calendarhall_undo_74 O f v0 s0 M) := by
  unfold f_Calendarhall_undo_74
  refine xZ.oc (x := s0) (lvf := fun _ => [(0, .ref v0)]) (stf := fun xo => [va_rf xo]) ?_ (fun x1 => ?_)
  · skip
    refine xZ.adv (me := xm124) hP_124 2 (pc' := 76) (lv' := [(1, .null), (0, .ref v0)]) (st' := [.null]) rfl ?_
    refine xZ.one (pc' := 87) (lv' := [(1, .null), (0, .ref v0)]) (st' := []) (me := xm124) hP_124 rfl rfl ?_
    exact xZ.sub (xsc (.tail _ (.head _)) xsn) (show ([1, 0] : List Nat).Nodup from by decide) (k_f_Calendarhall_undo_87 O f d v0 M)
  · skip
    refine xZ.adv (me := xm124) hP_124 2 (pc' := 76) (lv' := [(1, .ref x1), (0, .ref v0)]) (st' := [.ref x1]) rfl ?_
    refine xZ.one (pc' := 79) (lv' := [(1, .ref x1), (0, .ref v0)]) (st' := []) (me := xm124) hP_124 rfl rfl ?_
    refine xZ.adv (me := xm124) hP_124 1 (pc' := 80) (lv' := [(1, .ref x1), (0, .ref v0)]) (st' := [.ref v0]) rfl ?_
    refine xZ.k_gR (me := xm124) hP_124 rfl (fun x2 => ?_)
    refine xZ.adv (me := xm124) hP_124 1 (pc' := 84) (lv' := [(1, .ref x1), (0, .ref v0)]) (st' := [.ref x1, .ref x2]) rfl ?_
    refine xZ.callv (κ := oU) (av := [.ref x1]) (rest := []) (st' := fun _ => []) (k0 := x2) (me := xm124) hP_124 rfl (Or.inl rfl) ⟨rfl, by decide⟩ rfl rfl (Nat.le_of_ble_eq_true rfl) (by decide) hP_24 (Nat.le_of_ble_eq_true rfl) (fun _ => rfl) (k_f_Hall_copyFrom O f (d + 0) x2 x1 M) (fun _ M1 => ?_)
    exact xZ.sub (xsc (.tail _ (.head _)) xsn) (show ([1, 0] : List Nat).Nodup from by decide) (k_f_Calendarhall_undo_87 O f d v0 M1)
def f_Calendarhall_undo_46 (O : Nat → Option va_E) (f : Nat) (v0 : Nat) (s0 : Nat) (s1 : Int) (M : xM) : Option (Int × xM) :=
  (pJ M s0 12 2 s1).bind fun M1 =>
  (gJ O M1 v0 12 2).bind fun x1 =>
  (gR O M1 v0 12 1).bind fun x2 =>
  (aJN O M1 x2).bind fun x3 =>
  if yw x3 ≤ yw x1 then (
    f_Calendarhall_undo_74 O f v0 none M1
  ) else
  (gR O M1 v0 12 1).bind fun x4 =>
  (gJ O M1 v0 12 2).bind fun x5 =>
  (aJR O M1 x4 x5).bind fun x6 =>
  f_Calendarhall_undo_74 O f v0 (some x6) M1
set_option maxRecDepth 20000 in
theorem k_f_Calendarhall_undo_46 (O : Nat → Option va_E) (f d : Nat) (v0 : Nat) (s0 : Nat) (s1 : Int) (M : xM) : xZ oJ O (d + 4) 124 46 [(0, .ref v0)] [.int (yw s1), .ref s0] M (f_Calendarhall_undo_46 O f v0 s0 s1 M) := by
  unfold f_Calendarhall_undo_46
  refine xZ.k_pJ (me := xm124) hP_124 rfl (fun M1 => ?_)
  refine xZ.adv (me := xm124) hP_124 1 (pc' := 50) (lv' := [(0, .ref v0)]) (st' := [.ref v0]) rfl ?_
  refine xZ.k_gJ (me := xm124) hP_124 rfl (fun x1 => ?_)
  refine xZ.adv (me := xm124) hP_124 1 (pc' := 54) (lv' := [(0, .ref v0)]) (st' := [.ref v0, .int (yw x1)]) rfl ?_
  refine xZ.k_gR (me := xm124) hP_124 rfl (fun x2 => ?_)
  refine xZ.k_aJN (me := xm124) hP_124 rfl (fun x3 => ?_)
  refine xZ.jc_ge (me := xm124) hP_124 rfl (fun h1 => ?_) (fun h1 => ?_)
  · skip
    refine xZ.adv (me := xm124) hP_124 1 (pc' := 74) (lv' := [(0, .ref v0)]) (st' := [.null]) rfl ?_
    exact (k_f_Calendarhall_undo_74 O f d v0 none M1)
  · skip
    refine xZ.adv (me := xm124) hP_124 1 (pc' := 62) (lv' := [(0, .ref v0)]) (st' := [.ref v0]) rfl ?_
    refine xZ.k_gR (me := xm124) hP_124 rfl (fun x4 => ?_)
    refine xZ.adv (me := xm124) hP_124 1 (pc' := 66) (lv' := [(0, .ref v0)]) (st' := [.ref v0, .ref x4]) rfl ?_
    refine xZ.k_gJ (me := xm124) hP_124 rfl (fun x5 => ?_)
    refine xZ.k_aJR (me := xm124) hP_124 rfl (fun x6 => ?_)
    refine xZ.adv (me := xm124) hP_124 1 (pc' := 74) (lv' := [(0, .ref v0)]) (st' := [.ref x6]) rfl ?_
    exact (k_f_Calendarhall_undo_74 O f d v0 (some x6) M1)
def f_Calendarhall_undo (O : Nat → Option va_E) (f : Nat) (v0 : Nat) (M : xM) : Option (Int × xM) :=
  (gJ O M v0 12 3).bind fun x1 =>
  if yw 1 ≤ yw x1 then (
    (gJ O M v0 12 3).bind fun x2 =>
    (pJ M v0 12 3 (x2 - 1)).bind fun M1 =>
    (gJ O M1 v0 12 2).bind fun x3 =>
    if yw 1 ≤ yw x3 then (
      (gJ O M1 v0 12 2).bind fun x4 =>
      f_Calendarhall_undo_46 O f v0 v0 (x4 - 1) M1
    ) else
    f_Calendarhall_undo_46 O f v0 v0 7 M1
  ) else
  none
set_option maxRecDepth 20000 in
theorem k_f_Calendarhall_undo (O : Nat → Option va_E) (f d : Nat) (v0 : Nat) (M : xM) : xZ oJ O (d + 4) 124 0 [(0, .ref v0)] [] M (f_Calendarhall_undo O f v0 M) := by
  unfold f_Calendarhall_undo
  refine xZ.adv (me := xm124) hP_124 1 (pc' := 1) (lv' := [(0, .ref v0)]) (st' := [.ref v0]) rfl ?_
  refine xZ.k_gJ (me := xm124) hP_124 rfl (fun x1 => ?_)
  refine xZ.adv (me := xm124) hP_124 1 (pc' := 5) (lv' := [(0, .ref v0)]) (st' := [.int (1 : Int32), .int (yw x1)]) rfl ?_
  refine xZ.eqs (lv2 := [(0, .ref v0)]) (st2 := [.int (yw 1), .int (yw x1)]) rfl (by simp only [yl_lit, yL_lit, yw_add, yw_sub, yw_mul, yw_neg, yl_add, yl_sub, yl_mul, cj_and, cj_or, cj_xor, cj_shl, cj_shr, cj_ushr, cj_div, cj_i2c, cj_i2b, cj_dc, ck_and, ck_or, ck_xor, ck_shl, ck_shr, ck_ushr, ck_i2l, ck_l2i, ck_cmp]) ?_
  refine xZ.jc_ge (me := xm124) hP_124 rfl (fun h1 => ?_) (fun h1 => ?_)
  · skip
    refine xZ.adv (me := xm124) hP_124 2 (pc' := 18) (lv' := [(0, .ref v0)]) (st' := [.ref v0, .ref v0]) rfl ?_
    refine xZ.k_gJ (me := xm124) hP_124 rfl (fun x2 => ?_)
    refine xZ.adv (me := xm124) hP_124 2 (pc' := 23) (lv' := [(0, .ref v0)]) (st' := [.int ((yw x2) - (1 : Int32)), .ref v0]) rfl ?_
    refine xZ.eqs (lv2 := [(0, .ref v0)]) (st2 := [.int (yw (x2 - 1)), .ref v0]) rfl (by simp only [yl_lit, yL_lit, yw_add, yw_sub, yw_mul, yw_neg, yl_add, yl_sub, yl_mul, cj_and, cj_or, cj_xor, cj_shl, cj_shr, cj_ushr, cj_div, cj_i2c, cj_i2b, cj_dc, ck_and, ck_or, ck_xor, ck_shl, ck_shr, ck_ushr, ck_i2l, ck_l2i, ck_cmp]) ?_
    refine xZ.k_pJ (me := xm124) hP_124 rfl (fun M1 => ?_)
    refine xZ.adv (me := xm124) hP_124 2 (pc' := 28) (lv' := [(0, .ref v0)]) (st' := [.ref v0, .ref v0]) rfl ?_
    refine xZ.k_gJ (me := xm124) hP_124 rfl (fun x3 => ?_)
    refine xZ.adv (me := xm124) hP_124 1 (pc' := 32) (lv' := [(0, .ref v0)]) (st' := [.int (1 : Int32), .int (yw x3), .ref v0]) rfl ?_
    refine xZ.eqs (lv2 := [(0, .ref v0)]) (st2 := [.int (yw 1), .int (yw x3), .ref v0]) rfl (by simp only [yl_lit, yL_lit, yw_add, yw_sub, yw_mul, yw_neg, yl_add, yl_sub, yl_mul, cj_and, cj_or, cj_xor, cj_shl, cj_shr, cj_ushr, cj_div, cj_i2c, cj_i2b, cj_dc, ck_and, ck_or, ck_xor, ck_shl, ck_shr, ck_ushr, ck_i2l, ck_l2i, ck_cmp]) ?_
    refine xZ.jc_ge (me := xm124) hP_124 rfl (fun h2 => ?_) (fun h2 => ?_)
    · skip
      refine xZ.adv (me := xm124) hP_124 1 (pc' := 41) (lv' := [(0, .ref v0)]) (st' := [.ref v0, .ref v0]) rfl ?_
      refine xZ.k_gJ (me := xm124) hP_124 rfl (fun x4 => ?_)
      refine xZ.adv (me := xm124) hP_124 2 (pc' := 46) (lv' := [(0, .ref v0)]) (st' := [.int ((yw x4) - (1 : Int32)), .ref v0]) rfl ?_
      refine xZ.eqs (lv2 := [(0, .ref v0)]) (st2 := [.int (yw (x4 - 1)), .ref v0]) rfl (by simp only [yl_lit, yL_lit, yw_add, yw_sub, yw_mul, yw_neg, yl_add, yl_sub, yl_mul, cj_and, cj_or, cj_xor, cj_shl, cj_shr, cj_ushr, cj_div, cj_i2c, cj_i2b, cj_dc, ck_and, ck_or, ck_xor, ck_shl, ck_shr, ck_ushr, ck_i2l, ck_l2i, ck_cmp]) ?_
      exact (k_f_Calendarhall_undo_46 O f d v0 v0 (x4 - 1) M1)
    · skip
      refine xZ.adv (me := xm124) hP_124 2 (pc' := 46) (lv' := [(0, .ref v0)]) (st' := [.int (7 : Int32), .ref v0]) rfl ?_
      refine xZ.eqs (lv2 := [(0, .ref v0)]) (st2 := [.int (yw 7), .ref v0]) rfl (by simp only [yl_lit, yL_lit, yw_add, yw_sub, yw_mul, yw_neg, yl_add, yl_sub, yl_mul, cj_and, cj_or, cj_xor, cj_shl, cj_shr, cj_ushr, cj_div, cj_i2c, cj_i2b, cj_dc, ck_and, ck_or, ck_xor, ck_shl, ck_shr, ck_ushr, ck_i2l, ck_l2i, ck_cmp]) ?_
      exact (k_f_Calendarhall_undo_46 O f d v0 v0 7 M1)
  · skip
    exact xZ.no
