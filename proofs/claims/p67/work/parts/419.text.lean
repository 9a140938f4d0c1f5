/-! ===== texts ===== -/
def f_Calendarhall_plan (O : Nat → Option va_E) (f : Nat) (v0 : Nat) (v1 : Int) (v2 : Int) (v3 : Int) (M : xM) : Option (Int × xM) :=
  xcl (f_Calendarhall_needRange O f v1 1 4095 M) fun _ M1 =>
  xcl (f_Calendarhall_needPiece O f v2 v3 10080 M1) fun _ M2 =>
  (gR O M2 v0 12 0).bind fun x3 =>
  (gR O M2 v0 12 4).bind fun x4 =>
  (isO O M2 x3 4).bind fun _ =>
  xcl (f_Hall_collect O f x3 x4 v1 v2 v3 M2) fun _ M3 =>
  (gR O M3 v0 12 4).bind fun x6 =>
  (gJ O M3 x6 2 0).bind fun x7 =>
  if yw x7 ≤ yw 5 then (
    (gR O M3 v0 12 6).bind fun x8 =>
    (gR O M3 v0 12 4).bind fun x9 =>
    (gR O M3 v0 12 0).bind fun x10 =>
    (isO O M3 x8 7).bind fun _ =>
    xcl (f_Planner_fill O f x8 x9 x10 M3) fun _ M4 =>
    (gR O M4 v0 12 6).bind fun x12 =>
    (isO O M4 x12 7).bind fun _ =>
    xcl (f_Planner_search O f x12 v2 v3 M4) fun x13 M5 =>
    some (x13, M5)
  ) else
  none
set_option maxRecDepth 20000 in
theorem k_f_Calendarhall_plan (O : Nat → Option va_E) (f d : Nat) (v0 : Nat) (v1 : Int) (v2 : Int) (v3 : Int) (M : xM) : xZ oJ O (d + 7) 205 0 [(0, .ref v0), (1, .int (yw v1)), (2, .int (yw v2)), (3, .int (yw v3))] [] M (f_Calendarhall_plan O f v0 v1 v2 v3 M) := by
  unfold f_Calendarhall_plan
  refine xZ.adv (me := xm205) hP_205 3 (pc' := 5) (lv' := [(0, .ref v0), (1, .int (yw v1)), (2, .int (yw v2)), (3, .int (yw v3))]) (st' := [.int (4095 : Int32), .int (1 : Int32), .int (yw v1)]) rfl ?_
  refine xZ.eqs (lv2 := [(0, .ref v0), (1, .int (yw v1)), (2, .int (yw v2)), (3, .int (yw v3))]) (st2 := [.int (yw 4095), .int (yw 1), .int (yw v1)]) rfl (by simp only [yl_lit, yL_lit, yw_add, yw_sub, yw_mul, yw_neg, yl_add, yl_sub, yl_mul, cj_and, cj_or, cj_xor, cj_shl, cj_shr, cj_ushr, cj_div, cj_i2c, cj_i2b, cj_dc, ck_and, ck_or, ck_xor, ck_shl, ck_shr, ck_ushr, ck_i2l, ck_l2i, ck_cmp]) ?_
  refine xZ.calls (κ := oU) (av := [.int (yw v1), .int (yw 1), .int (yw 4095)]) (rest := []) (st' := fun _ => []) (me := xm205) hP_205 rfl rfl rfl (Nat.le_of_ble_eq_true rfl) (by decide) hP_22 (Nat.le_of_ble_eq_true rfl) (fun _ => rfl) (k_f_Calendarhall_needRange O f (d + 6) v1 1 4095 M) (fun _ M1 => ?_)
  refine xZ.adv (me := xm205) hP_205 3 (pc' := 13) (lv' := [(0, .ref v0), (1, .int (yw v1)), (2, .int (yw v2)), (3, .int (yw v3))]) (st' := [.int (10080 : Int32), .int (yw v3), .int (yw v2)]) rfl ?_
  refine xZ.eqs (lv2 := [(0, .ref v0), (1, .int (yw v1)), (2, .int (yw v2)), (3, .int (yw v3))]) (st2 := [.int (yw 10080), .int (yw v3), .int (yw v2)]) rfl (by simp only [yl_lit, yL_lit, yw_add, yw_sub, yw_mul, yw_neg, yl_add, yl_sub, yl_mul, cj_and, cj_or, cj_xor, cj_shl, cj_shr, cj_ushr, cj_div, cj_i2c, cj_i2b, cj_dc, ck_and, ck_or, ck_xor, ck_shl, ck_shr, ck_ushr, ck_i2l, ck_l2i, ck_cmp]) ?_
  refine xZ.calls (κ := oU) (av := [.int (yw v2), .int (yw v3), .int (yw 10080)]) (rest := []) (st' := fun _ => []) (me := xm205) hP_205 rfl rfl rfl (Nat.le_of_ble_eq_true rfl) (by decide) hP_114 (Nat.le_of_ble_eq_true rfl) (fun _ => rfl) (k_f_Calendarhall_needPiece O f (d + 5) v2 v3 10080 M1) (fun _ M2 => ?_)
  refine xZ.adv (me := xm205) hP_205 1 (pc' := 17) (lv' := [(0, .ref v0), (1, .int (yw v1)), (2, .int (yw v2)), (3, .int (yw v3))]) (st' := [.ref v0]) rfl ?_
  refine xZ.k_gR (me := xm205) hP_205 rfl (fun x3 => ?_)
  refine xZ.adv (me := xm205) hP_205 1 (pc' := 21) (lv' := [(0, .ref v0), (1, .int (yw v1)), (2, .int (yw v2)), (3, .int (yw v3))]) (st' := [.ref v0, .ref x3]) rfl ?_
  refine xZ.k_gR (me := xm205) hP_205 rfl (fun x4 => ?_)
  refine xZ.adv (me := xm205) hP_205 3 (pc' := 27) (lv' := [(0, .ref v0), (1, .int (yw v1)), (2, .int (yw v2)), (3, .int (yw v3))]) (st' := [.int (yw v3), .int (yw v2), .int (yw v1), .ref x4, .ref x3]) rfl ?_
  refine xZ.callv (κ := oU) (av := [.ref x4, .int (yw v1), .int (yw v2), .int (yw v3)]) (rest := []) (st' := fun _ => []) (k0 := x3) (me := xm205) hP_205 rfl (Or.inl rfl) ⟨rfl, by decide⟩ rfl rfl (Nat.le_of_ble_eq_true rfl) (by decide) hP_190 (Nat.le_of_ble_eq_true rfl) (fun _ => rfl) (k_f_Hall_collect O f (d + 0) x3 x4 v1 v2 v3 M2) (fun _ M3 => ?_)
  refine xZ.adv (me := xm205) hP_205 1 (pc' := 31) (lv' := [(0, .ref v0), (1, .int (yw v1)), (2, .int (yw v2)), (3, .int (yw v3))]) (st' := [.ref v0]) rfl ?_
  refine xZ.k_gR (me := xm205) hP_205 rfl (fun x6 => ?_)
  refine xZ.k_gJ (me := xm205) hP_205 rfl (fun x7 => ?_)
  refine xZ.adv (me := xm205) hP_205 1 (pc' := 38) (lv' := [(0, .ref v0), (1, .int (yw v1)), (2, .int (yw v2)), (3, .int (yw v3))]) (st' := [.int (5 : Int32), .int (yw x7)]) rfl ?_
  refine xZ.eqs (lv2 := [(0, .ref v0), (1, .int (yw v1)), (2, .int (yw v2)), (3, .int (yw v3))]) (st2 := [.int (yw 5), .int (yw x7)]) rfl (by simp only [yl_lit, yL_lit, yw_add, yw_sub, yw_mul, yw_neg, yl_add, yl_sub, yl_mul, cj_and, cj_or, cj_xor, cj_shl, cj_shr, cj_ushr, cj_div, cj_i2c, cj_i2b, cj_dc, ck_and, ck_or, ck_xor, ck_shl, ck_shr, ck_ushr, ck_i2l, ck_l2i, ck_cmp]) ?_
  refine xZ.jc_le (me := xm205) hP_205 rfl (fun h1 => ?_) (fun h1 => ?_)
  · skip
    refine xZ.adv (me := xm205) hP_205 1 (pc' := 50) (lv' := [(0, .ref v0), (1, .int (yw v1)), (2, .int (yw v2)), (3, .int (yw v3))]) (st' := [.ref v0]) rfl ?_
    refine xZ.k_gR (me := xm205) hP_205 rfl (fun x8 => ?_)
    refine xZ.adv (me := xm205) hP_205 1 (pc' := 54) (lv' := [(0, .ref v0), (1, .int (yw v1)), (2, .int (yw v2)), (3, .int (yw v3))]) (st' := [.ref v0, .ref x8]) rfl ?_
    refine xZ.k_gR (me := xm205) hP_205 rfl (fun x9 => ?_)
    refine xZ.adv (me := xm205) hP_205 1 (pc' := 58) (lv' := [(0, .ref v0), (1, .int (yw v1)), (2, .int (yw v2)), (3, .int (yw v3))]) (st' := [.ref v0, .ref x9, .ref x8]) rfl ?_
    refine xZ.k_gR (me := xm205) hP_205 rfl (fun x10 => ?_)
    refine xZ.callv (κ := oU) (av := [.ref x9, .ref x10]) (rest := []) (st' := fun _ => []) (k0 := x8) (me := xm205) hP_205 rfl (Or.inl rfl) ⟨rfl, by decide⟩ rfl rfl (Nat.le_of_ble_eq_true rfl) (by decide) hP_206 (Nat.le_of_ble_eq_true rfl) (fun _ => rfl) (k_f_Planner_fill O f (d + 4) x8 x9 x10 M3) (fun _ M4 => ?_)
    refine xZ.adv (me := xm205) hP_205 1 (pc' := 65) (lv' := [(0, .ref v0), (1, .int (yw v1)), (2, .int (yw v2)), (3, .int (yw v3))]) (st' := [.ref v0]) rfl ?_
    refine xZ.k_gR (me := xm205) hP_205 rfl (fun x12 => ?_)
    refine xZ.adv (me := xm205) hP_205 2 (pc' := 70) (lv' := [(0, .ref v0), (1, .int (yw v1)), (2, .int (yw v2)), (3, .int (yw v3))]) (st' := [.int (yw v3), .int (yw v2), .ref x12]) rfl ?_
    refine xZ.callv (κ := oJ) (av := [.int (yw v2), .int (yw v3)]) (rest := []) (st' := fun x13 => [.int (yw x13)]) (k0 := x12) (me := xm205) hP_205 rfl (Or.inl rfl) ⟨rfl, by decide⟩ rfl rfl (Nat.le_of_ble_eq_true rfl) (by decide) hP_207 (Nat.le_of_ble_eq_true rfl) (fun _ => rfl) (k_f_Planner_search O f (d + 4) x12 v2 v3 M4) (fun x13 M5 => ?_)
    exact xZ.jreti (me := xm205) hP_205 rfl rfl
  · skip
    exact xZ.no
def f_Planner_numberAt (O : Nat → Option va_E) (f : Nat) (v0 : Nat) (v1 : Int) (M : xM) : Option (Int × xM) :=
  if yw v1 < yw 0 then (
    some (0, M)
  ) else
  (gR O M v0 7 2).bind fun x1 =>
  (aJN O M x1).bind fun x2 =>
  if yw x2 ≤ yw v1 then (
    some (0, M)
  ) else
  (gR O M v0 7 2).bind fun x3 =>
  (aK O M x3 v1).bind fun x4 =>
  xcl (f_Dates_numberOf O f x4 M) fun x5 M1 =>
  some (x5, M1)
set_option maxRecDepth 20000 in
theorem k_f_Planner_numberAt (O : Nat → Option va_E) (f d : Nat) (v0 : Nat) (v1 : Int) (M : xM) : xZ oJ O (d + 1) 213 0 [(0, .ref v0), (1, .int (yw v1))] [] M (f_Planner_numberAt O f v0 v1 M) := by
  unfold f_Planner_numberAt
  refine xZ.adv (me := xm213) hP_213 1 (pc' := 1) (lv' := [(0, .ref v0), (1, .int (yw v1))]) (st' := [.int (yw v1)]) rfl ?_
  refine xZ.jf_lt (me := xm213) hP_213 rfl (fun h1 => ?_) (fun h1 => ?_)
  · skip
    refine xZ.adv (me := xm213) hP_213 1 (pc' := 26) (lv' := [(0, .ref v0), (1, .int (yw v1))]) (st' := [.int (0 : Int32)]) rfl ?_
    refine xZ.eqs (lv2 := [(0, .ref v0), (1, .int (yw v1))]) (st2 := [.int (yw 0)]) rfl (by simp only [yl_lit, yL_lit, yw_add, yw_sub, yw_mul, yw_neg, yl_add, yl_sub, yl_mul, cj_and, cj_or, cj_xor, cj_shl, cj_shr, cj_ushr, cj_div, cj_i2c, cj_i2b, cj_dc, ck_and, ck_or, ck_xor, ck_shl, ck_shr, ck_ushr, ck_i2l, ck_l2i, ck_cmp]) ?_
    exact xZ.jreti (me := xm213) hP_213 rfl rfl
  · skip
    refine xZ.adv (me := xm213) hP_213 2 (pc' := 6) (lv' := [(0, .ref v0), (1, .int (yw v1))]) (st' := [.ref v0, .int (yw v1)]) rfl ?_
    refine xZ.k_gR (me := xm213) hP_213 rfl (fun x1 => ?_)
    refine xZ.k_aJN (me := xm213) hP_213 rfl (fun x2 => ?_)
    refine xZ.jc_ge (me := xm213) hP_213 rfl (fun h2 => ?_) (fun h2 => ?_)
    · skip
      refine xZ.adv (me := xm213) hP_213 1 (pc' := 26) (lv' := [(0, .ref v0), (1, .int (yw v1))]) (st' := [.int (0 : Int32)]) rfl ?_
      refine xZ.eqs (lv2 := [(0, .ref v0), (1, .int (yw v1))]) (st2 := [.int (yw 0)]) rfl (by simp only [yl_lit, yL_lit, yw_add, yw_sub, yw_mul, yw_neg, yl_add, yl_sub, yl_mul, cj_and, cj_or, cj_xor, cj_shl, cj_shr, cj_ushr, cj_div, cj_i2c, cj_i2b, cj_dc, ck_and, ck_or, ck_xor, ck_shl, ck_shr, ck_ushr, ck_i2l, ck_l2i, ck_cmp]) ?_
      exact xZ.jreti (me := xm213) hP_213 rfl rfl
    · skip
      refine xZ.adv (me := xm213) hP_213 1 (pc' := 14) (lv' := [(0, .ref v0), (1, .int (yw v1))]) (st' := [.ref v0]) rfl ?_
      refine xZ.k_gR (me := xm213) hP_213 rfl (fun x3 => ?_)
      refine xZ.adv (me := xm213) hP_213 1 (pc' := 18) (lv' := [(0, .ref v0), (1, .int (yw v1))]) (st' := [.int (yw v1), .ref x3]) rfl ?_
      refine xZ.k_aK (me := xm213) hP_213 rfl (fun x4 => ?_)
      refine xZ.calls (κ := oJ) (av := [.long (yl x4)]) (rest := []) (st' := fun x5 => [.int (yw x5)]) (me := xm213) hP_213 rfl rfl rfl (Nat.le_of_ble_eq_true rfl) (by decide) hP_174 (Nat.le_of_ble_eq_true rfl) (fun _ => rfl) (k_f_Dates_numberOf O f (d + 0) x4 M) (fun x5 M1 => ?_)
      refine xZ.adv (me := xm213) hP_213 1 (pc' := 26) (lv' := [(0, .ref v0), (1, .int (yw v1))]) (st' := [.int (yw x5)]) rfl ?_
      exact xZ.jreti (me := xm213) hP_213 rfl rfl
def f_Planner_dayByPlace (O : Nat → Option va_E) (f : Nat) (v0 : Nat) (v1 : Int) (M : xM) : Option (Int × xM) :=
  if yw v1 < yw 0 then (
    some (0, M)
  ) else
  (gR O M v0 7 2).bind fun x1 =>
  (aJN O M x1).bind fun x2 =>
  if yw x2 ≤ yw v1 then (
    some (0, M)
  ) else
  (gR O M v0 7 2).bind fun x3 =>
  (aK O M x3 v1).bind fun x4 =>
  xcl (f_Dates_dayIn O f x4 M) fun x5 M1 =>
  some (x5, M1)
set_option maxRecDepth 20000 in
theorem k_f_Planner_dayByPlace (O : Nat → Option va_E) (f d : Nat) (v0 : Nat) (v1 : Int) (M : xM) : xZ oJ O (d + 1) 214 0 [(0, .ref v0), (1, .int (yw v1))] [] M (f_Planner_dayByPlace O f v0 v1 M) := by
  unfold f_Planner_dayByPlace
  refine xZ.adv (me := xm214) hP_214 1 (pc' := 1) (lv' := [(0, .ref v0), (1, .int (yw v1))]) (st' := [.int (yw v1)]) rfl ?_
  refine xZ.jf_lt (me := xm214) hP_214 rfl (fun h1 => ?_) (fun h1 => ?_)
  · skip
    refine xZ.adv (me := xm214) hP_214 1 (pc' := 26) (lv' := [(0, .ref v0), (1, .int (yw v1))]) (st' := [.int (0 : Int32)]) rfl ?_
    refine xZ.eqs (lv2 := [(0, .ref v0), (1, .int (yw v1))]) (st2 := [.int (yw 0)]) rfl (by simp only [yl_lit, yL_lit, yw_add, yw_sub, yw_mul, yw_neg, yl_add, yl_sub, yl_mul, cj_and, cj_or, cj_xor, cj_shl, cj_shr, cj_ushr, cj_div, cj_i2c, cj_i2b, cj_dc, ck_and, ck_or, ck_xor, ck_shl, ck_shr, ck_ushr, ck_i2l, ck_l2i, ck_cmp]) ?_
    exact xZ.jreti (me := xm214) hP_214 rfl rfl
  · skip
    refine xZ.adv (me := xm214) hP_214 2 (pc' := 6) (lv' := [(0, .ref v0), (1, .int (yw v1))]) (st' := [.ref v0, .int (yw v1)]) rfl ?_
    refine xZ.k_gR (me := xm214) hP_214 rfl (fun x1 => ?_)
    refine xZ.k_aJN (me := xm214) hP_214 rfl (fun x2 => ?_)
    refine xZ.jc_ge (me := xm214) hP_214 rfl (fun h2 => ?_) (fun h2 => ?_)
    · skip
      refine xZ.adv (me := xm214) hP_214 1 (pc' := 26) (lv' := [(0, .ref v0), (1, .int (yw v1))]) (st' := [.int (0 : Int32)]) rfl ?_
      refine xZ.eqs (lv2 := [(0, .ref v0), (1, .int (yw v1))]) (st2 := [.int (yw 0)]) rfl (by simp only [yl_lit, yL_lit, yw_add, yw_sub, yw_mul, yw_neg, yl_add, yl_sub, yl_mul, cj_and, cj_or, cj_xor, cj_shl, cj_shr, cj_ushr, cj_div, cj_i2c, cj_i2b, cj_dc, ck_and, ck_or, ck_xor, ck_shl, ck_shr, ck_ushr, ck_i2l, ck_l2i, ck_cmp]) ?_
      exact xZ.jreti (me := xm214) hP_214 rfl rfl
    · skip
      refine xZ.adv (me := xm214) hP_214 1 (pc' := 14) (lv' := [(0, .ref v0), (1, .int (yw v1))]) (st' := [.ref v0]) rfl ?_
      refine xZ.k_gR (me := xm214) hP_214 rfl (fun x3 => ?_)
      refine xZ.adv (me := xm214) hP_214 1 (pc' := 18) (lv' := [(0, .ref v0), (1, .int (yw v1))]) (st' := [.int (yw v1), .ref x3]) rfl ?_
      refine xZ.k_aK (me := xm214) hP_214 rfl (fun x4 => ?_)
      refine xZ.calls (κ := oJ) (av := [.long (yl x4)]) (rest := []) (st' := fun x5 => [.int (yw x5)]) (me := xm214) hP_214 rfl rfl rfl (Nat.le_of_ble_eq_true rfl) (by decide) hP_123 (Nat.le_of_ble_eq_true rfl) (fun _ => rfl) (k_f_Dates_dayIn O f (d + 0) x4 M) (fun x5 M1 => ?_)
      refine xZ.adv (me := xm214) hP_214 1 (pc' := 26) (lv' := [(0, .ref v0), (1, .int (yw v1))]) (st' := [.int (yw x5)]) rfl ?_
      exact xZ.jreti (me := xm214) hP_214 rfl rfl
def f_Planner_beginAt (O : Nat → Option va_E) (f : Nat) (v0 : Nat) (v1 : Int) (M : xM) : Option (Int × xM) :=
  if yw v1 < yw 0 then (
    some (0, M)
  ) else
  (gR O M v0 7 5).bind fun x1 =>
  (aJN O M x1).bind fun x2 =>
  if yw x2 ≤ yw v1 then (
    some (0, M)
  ) else
  (gR O M v0 7 5).bind fun x3 =>
  (aJ O M x3 v1).bind fun x4 =>
  some (x4, M)
set_option maxRecDepth 20000 in
theorem k_f_Planner_beginAt (O : Nat → Option va_E) (f d : Nat) (v0 : Nat) (v1 : Int) (M : xM) : xZ oJ O (d + 0) 215 0 [(0, .ref v0), (1, .int (yw v1))] [] M (f_Planner_beginAt O f v0 v1 M) := by
  unfold f_Planner_beginAt
  refine xZ.adv (me := xm215) hP_215 1 (pc' := 1) (lv' := [(0, .ref v0), (1, .int (yw v1))]) (st' := [.int (yw v1)]) rfl ?_
  refine xZ.jf_lt (me := xm215) hP_215 rfl (fun h1 => ?_) (fun h1 => ?_)
  · skip
    refine xZ.adv (me := xm215) hP_215 1 (pc' := 23) (lv' := [(0, .ref v0), (1, .int (yw v1))]) (st' := [.int (0 : Int32)]) rfl ?_
    refine xZ.eqs (lv2 := [(0, .ref v0), (1, .int (yw v1))]) (st2 := [.int (yw 0)]) rfl (by simp only [yl_lit, yL_lit, yw_add, yw_sub, yw_mul, yw_neg, yl_add, yl_sub, yl_mul, cj_and, cj_or, cj_xor, cj_shl, cj_shr, cj_ushr, cj_div, cj_i2c, cj_i2b, cj_dc, ck_and, ck_or, ck_xor, ck_shl, ck_shr, ck_ushr, ck_i2l, ck_l2i, ck_cmp]) ?_
    exact xZ.jreti (me := xm215) hP_215 rfl rfl
  · skip
    refine xZ.adv (me := xm215) hP_215 2 (pc' := 6) (lv' := [(0, .ref v0), (1, .int (yw v1))]) (st' := [.ref v0, .int (yw v1)]) rfl ?_
    refine xZ.k_gR (me := xm215) hP_215 rfl (fun x1 => ?_)
    refine xZ.k_aJN (me := xm215) hP_215 rfl (fun x2 => ?_)
    refine xZ.jc_ge (me := xm215) hP_215 rfl (fun h2 => ?_) (fun h2 => ?_)
    · skip
      refine xZ.adv (me := xm215) hP_215 1 (pc' := 23) (lv' := [(0, .ref v0), (1, .int (yw v1))]) (st' := [.int (0 : Int32)]) rfl ?_
      refine xZ.eqs (lv2 := [(0, .ref v0), (1, .int (yw v1))]) (st2 := [.int (yw 0)]) rfl (by simp only [yl_lit, yL_lit, yw_add, yw_sub, yw_mul, yw_neg, yl_add, yl_sub, yl_mul, cj_and, cj_or, cj_xor, cj_shl, cj_shr, cj_ushr, cj_div, cj_i2c, cj_i2b, cj_dc, ck_and, ck_or, ck_xor, ck_shl, ck_shr, ck_ushr, ck_i2l, ck_l2i, ck_cmp]) ?_
      exact xZ.jreti (me := xm215) hP_215 rfl rfl
    · skip
      refine xZ.adv (me := xm215) hP_215 1 (pc' := 14) (lv' := [(0, .ref v0), (1, .int (yw v1))]) (st' := [.ref v0]) rfl ?_
      refine xZ.k_gR (me := xm215) hP_215 rfl (fun x3 => ?_)
      refine xZ.adv (me := xm215) hP_215 1 (pc' := 18) (lv' := [(0, .ref v0), (1, .int (yw v1))]) (st' := [.int (yw v1), .ref x3]) rfl ?_
      refine xZ.k_aJ (me := xm215) hP_215 rfl (fun x4 => ?_)
      refine xZ.adv (me := xm215) hP_215 1 (pc' := 23) (lv' := [(0, .ref v0), (1, .int (yw v1))]) (st' := [.int (yw x4)]) rfl ?_
      exact xZ.jreti (me := xm215) hP_215 rfl rfl
def f_Calendarhall_planAt (O : Nat → Option va_E) (f : Nat) (v0 : Nat) (v1 : Int) (v2 : Int) (M : xM) : Option (Int × xM) :=
  if yw 0 ≤ yw v1 then (
    xcl (f_Calendarhall_needRange O f v2 0 2 M) fun _ M1 =>
    (gR O M1 v0 12 6).bind fun x2 =>
    (gJ O M1 x2 7 0).bind fun x3 =>
    if yw x3 = yw 0 then (
      none
    ) else
    (gR O M1 v0 12 6).bind fun x4 =>
    (isO O M1 x4 7).bind fun _ =>
    xcl (f_Planner_count O f x4 M1) fun x5 M2 =>
    if yw v1 < yw x5 then (
      if yw v2 = yw 0 then (
        (gR O M2 v0 12 6).bind fun x6 =>
        (isO O M2 x6 7).bind fun _ =>
        xcl (f_Planner_numberAt O f x6 v1 M2) fun x7 M3 =>
        some (x7, M3)
      ) else
      if yw v2 = yw 1 then (
        (gR O M2 v0 12 6).bind fun x8 =>
        (isO O M2 x8 7).bind fun _ =>
        xcl (f_Planner_dayByPlace O f x8 v1 M2) fun x9 M4 =>
        some (x9, M4)
      ) else
      (gR O M2 v0 12 6).bind fun x10 =>
      (isO O M2 x10 7).bind fun _ =>
      xcl (f_Planner_beginAt O f x10 v1 M2) fun x11 M5 =>
      some (x11, M5)
    ) else
    none
  ) else
  none
set_option maxRecDepth 20000 in
theorem k_f_Calendarhall_planAt (O : Nat → Option va_E) (f d : Nat) (v0 : Nat) (v1 : Int) (v2 : Int) (M : xM) : xZ oJ O (d + 2) 212 0 [(0, .ref v0), (1, .int (yw v1)), (2, .int (yw v2))] [] M (f_Calendarhall_planAt O f v0 v1 v2 M) := by
  unfold f_Calendarhall_planAt
  refine xZ.adv (me := xm212) hP_212 1 (pc' := 1) (lv' := [(0, .ref v0), (1, .int (yw v1)), (2, .int (yw v2))]) (st' := [.int (yw v1)]) rfl ?_
  refine xZ.jf_ge (me := xm212) hP_212 rfl (fun h1 => ?_) (fun h1 => ?_)
  · skip
    refine xZ.adv (me := xm212) hP_212 3 (pc' := 15) (lv' := [(0, .ref v0), (1, .int (yw v1)), (2, .int (yw v2))]) (st' := [.int (2 : Int32), .int (0 : Int32), .int (yw v2)]) rfl ?_
    refine xZ.eqs (lv2 := [(0, .ref v0), (1, .int (yw v1)), (2, .int (yw v2))]) (st2 := [.int (yw 2), .int (yw 0), .int (yw v2)]) rfl (by simp only [yl_lit, yL_lit, yw_add, yw_sub, yw_mul, yw_neg, yl_add, yl_sub, yl_mul, cj_and, cj_or, cj_xor, cj_shl, cj_shr, cj_ushr, cj_div, cj_i2c, cj_i2b, cj_dc, ck_and, ck_or, ck_xor, ck_shl, ck_shr, ck_ushr, ck_i2l, ck_l2i, ck_cmp]) ?_
    refine xZ.calls (κ := oU) (av := [.int (yw v2), .int (yw 0), .int (yw 2)]) (rest := []) (st' := fun _ => []) (me := xm212) hP_212 rfl rfl rfl (Nat.le_of_ble_eq_true rfl) (by decide) hP_22 (Nat.le_of_ble_eq_true rfl) (fun _ => rfl) (k_f_Calendarhall_needRange O f (d + 1) v2 0 2 M) (fun _ M1 => ?_)
    refine xZ.adv (me := xm212) hP_212 1 (pc' := 19) (lv' := [(0, .ref v0), (1, .int (yw v1)), (2, .int (yw v2))]) (st' := [.ref v0]) rfl ?_
    refine xZ.k_gR (me := xm212) hP_212 rfl (fun x2 => ?_)
    refine xZ.k_gJ (me := xm212) hP_212 rfl (fun x3 => ?_)
    refine xZ.jf_eq (me := xm212) hP_212 rfl (fun h2 => ?_) (fun h2 => ?_)
    · skip
      exact xZ.no
    · skip
      refine xZ.adv (me := xm212) hP_212 2 (pc' := 30) (lv' := [(0, .ref v0), (1, .int (yw v1)), (2, .int (yw v2))]) (st' := [.ref v0, .int (yw v1)]) rfl ?_
      refine xZ.k_gR (me := xm212) hP_212 rfl (fun x4 => ?_)
      refine xZ.callv (κ := oJ) (av := []) (rest := [.int (yw v1)]) (st' := fun x5 => [.int (yw x5), .int (yw v1)]) (k0 := x4) (me := xm212) hP_212 rfl (Or.inl rfl) ⟨rfl, by decide⟩ rfl rfl (Nat.le_of_ble_eq_true rfl) (by decide) hP_208 (Nat.le_of_ble_eq_true rfl) (fun _ => rfl) (k_f_Planner_count O f (d + 0) x4 M1) (fun x5 M2 => ?_)
      refine xZ.jc_lt (me := xm212) hP_212 rfl (fun h3 => ?_) (fun h3 => ?_)
      · skip
        refine xZ.adv (me := xm212) hP_212 1 (pc' := 48) (lv' := [(0, .ref v0), (1, .int (yw v1)), (2, .int (yw v2))]) (st' := [.int (yw v2)]) rfl ?_
        refine xZ.jf_ne (me := xm212) hP_212 rfl (fun h4 => ?_) (fun h4 => ?_)
        · skip
          refine xZ.adv (me := xm212) hP_212 1 (pc' := 52) (lv' := [(0, .ref v0), (1, .int (yw v1)), (2, .int (yw v2))]) (st' := [.ref v0]) rfl ?_
          refine xZ.k_gR (me := xm212) hP_212 rfl (fun x6 => ?_)
          refine xZ.adv (me := xm212) hP_212 1 (pc' := 56) (lv' := [(0, .ref v0), (1, .int (yw v1)), (2, .int (yw v2))]) (st' := [.int (yw v1), .ref x6]) rfl ?_
          refine xZ.callv (κ := oJ) (av := [.int (yw v1)]) (rest := []) (st' := fun x7 => [.int (yw x7)]) (k0 := x6) (me := xm212) hP_212 rfl (Or.inl rfl) ⟨rfl, by decide⟩ rfl rfl (Nat.le_of_ble_eq_true rfl) (by decide) hP_213 (Nat.le_of_ble_eq_true rfl) (fun _ => rfl) (k_f_Planner_numberAt O f (d + 0) x6 v1 M2) (fun x7 M3 => ?_)
          exact xZ.jreti (me := xm212) hP_212 rfl rfl
        · skip
          refine xZ.adv (me := xm212) hP_212 2 (pc' := 62) (lv' := [(0, .ref v0), (1, .int (yw v1)), (2, .int (yw v2))]) (st' := [.int (1 : Int32), .int (yw v2)]) rfl ?_
          refine xZ.eqs (lv2 := [(0, .ref v0), (1, .int (yw v1)), (2, .int (yw v2))]) (st2 := [.int (yw 1), .int (yw v2)]) rfl (by simp only [yl_lit, yL_lit, yw_add, yw_sub, yw_mul, yw_neg, yl_add, yl_sub, yl_mul, cj_and, cj_or, cj_xor, cj_shl, cj_shr, cj_ushr, cj_div, cj_i2c, cj_i2b, cj_dc, ck_and, ck_or, ck_xor, ck_shl, ck_shr, ck_ushr, ck_i2l, ck_l2i, ck_cmp]) ?_
          refine xZ.jc_ne (me := xm212) hP_212 rfl (fun h5 => ?_) (fun h5 => ?_)
          · skip
            refine xZ.adv (me := xm212) hP_212 1 (pc' := 66) (lv' := [(0, .ref v0), (1, .int (yw v1)), (2, .int (yw v2))]) (st' := [.ref v0]) rfl ?_
            refine xZ.k_gR (me := xm212) hP_212 rfl (fun x8 => ?_)
            refine xZ.adv (me := xm212) hP_212 1 (pc' := 70) (lv' := [(0, .ref v0), (1, .int (yw v1)), (2, .int (yw v2))]) (st' := [.int (yw v1), .ref x8]) rfl ?_
            refine xZ.callv (κ := oJ) (av := [.int (yw v1)]) (rest := []) (st' := fun x9 => [.int (yw x9)]) (k0 := x8) (me := xm212) hP_212 rfl (Or.inl rfl) ⟨rfl, by decide⟩ rfl rfl (Nat.le_of_ble_eq_true rfl) (by decide) hP_214 (Nat.le_of_ble_eq_true rfl) (fun _ => rfl) (k_f_Planner_dayByPlace O f (d + 0) x8 v1 M2) (fun x9 M4 => ?_)
            refine xZ.adv (me := xm212) hP_212 1 (pc' := 84) (lv' := [(0, .ref v0), (1, .int (yw v1)), (2, .int (yw v2))]) (st' := [.int (yw x9)]) rfl ?_
            exact xZ.jreti (me := xm212) hP_212 rfl rfl
          · skip
            refine xZ.adv (me := xm212) hP_212 1 (pc' := 77) (lv' := [(0, .ref v0), (1, .int (yw v1)), (2, .int (yw v2))]) (st' := [.ref v0]) rfl ?_
            refine xZ.k_gR (me := xm212) hP_212 rfl (fun x10 => ?_)
            refine xZ.adv (me := xm212) hP_212 1 (pc' := 81) (lv' := [(0, .ref v0), (1, .int (yw v1)), (2, .int (yw v2))]) (st' := [.int (yw v1), .ref x10]) rfl ?_
            refine xZ.callv (κ := oJ) (av := [.int (yw v1)]) (rest := []) (st' := fun x11 => [.int (yw x11)]) (k0 := x10) (me := xm212) hP_212 rfl (Or.inl rfl) ⟨rfl, by decide⟩ rfl rfl (Nat.le_of_ble_eq_true rfl) (by decide) hP_215 (Nat.le_of_ble_eq_true rfl) (fun _ => rfl) (k_f_Planner_beginAt O f (d + 1) x10 v1 M2) (fun x11 M5 => ?_)
            exact xZ.jreti (me := xm212) hP_212 rfl rfl
      · skip
        exact xZ.no
  · skip
    exact xZ.no
def f_Planner_newExceptions_12 (O : Nat → Option va_E) (f : Nat) : Nat → Nat → Nat → Int → Nat → Int → Int → xM → Option (Int × xM)
  | 0, _, _, _, _, _, _, _ => none
  | n + 1, v0, v1, v2, v3, v4, v5, M =>
    (isO O M v0 7).bind fun _ =>
    xcl (f_Planner_count O f v0 M) fun x1 M1 =>
    if yw x1 ≤ yw v5 then (
      some (v4, M1)
    ) else
    (isO O M1 v0 7).bind fun _ =>
    xcl (f_Planner_numberAt O f v0 v5 M1) fun x2 M2 =>
    if yw x2 = yw v2 then (
      (isO O M2 v0 7).bind fun _ =>
      xcl (f_Planner_dayByPlace O f v0 v5 M2) fun x3 M3 =>
      (isO O M3 v3 10).bind fun _ =>
      xcl (f_Series_exceptionOf O f v3 x3 M3) fun x4 M4 =>
      if yw x4 = yw (-1) then (
        (isO O M4 v1 4).bind fun _ =>
        xcl (f_Hall_zoneOf O f v1 v3 M4) fun x5 M5 =>
        (isO O M5 v0 7).bind fun _ =>
        xcl (f_Planner_dayByPlace O f v0 v5 M5) fun x6 M6 =>
        (isO O M6 v3 10).bind fun _ =>
        xcl (f_Series_beginOf O f v3 x5 x6 M6) fun x7 M7 =>
        (isO O M7 v0 7).bind fun _ =>
        xcl (f_Planner_beginAt O f v0 v5 M7) fun x8 M8 =>
        if yw x7 = yw x8 then (
          f_Planner_newExceptions_12 O f n v0 v1 v2 v3 v4 (v5 + 1) M8
        ) else
        f_Planner_newExceptions_12 O f n v0 v1 v2 v3 (v4 + 1) (v5 + 1) M8
      ) else
      f_Planner_newExceptions_12 O f n v0 v1 v2 v3 v4 (v5 + 1) M4
    ) else
    f_Planner_newExceptions_12 O f n v0 v1 v2 v3 v4 (v5 + 1) M2
set_option maxRecDepth 20000 in
theorem k_f_Planner_newExceptions_12 (O : Nat → Option va_E) (f d : Nat) : ∀ (n : Nat) (v0 : Nat) (v1 : Nat) (v2 : Int) (v3 : Nat) (v4 : Int) (v5 : Int) (M : xM), xZ oJ O (d + 5) 218 12 [(0, .ref v0), (1, .ref v1), (2, .int (yw v2)), (3, .ref v3), (4, .int (yw v4)), (5, .int (yw v5))] [] M (f_Planner_newExceptions_12 O f n v0 v1 v2 v3 v4 v5 M) := by
  intro n
  induction n with
  | zero =>
    intro v0 v1 v2 v3 v4 v5 M
    exact xZ.no
  | succ n ih =>
    intro v0 v1 v2 v3 v4 v5 M
    unfold f_Planner_newExceptions_12
    refine xZ.adv (me := xm218) hP_218 2 (pc' := 15) (lv' := [(0, .ref v0), (1, .ref v1), (2, .int (yw v2)), (3, .ref v3), (4, .int (yw v4)), (5, .int (yw v5))]) (st' := [.ref v0, .int (yw v5)]) rfl ?_
    refine xZ.callv (κ := oJ) (av := []) (rest := [.int (yw v5)]) (st' := fun x1 => [.int (yw x1), .int (yw v5)]) (k0 := v0) (me := xm218) hP_218 rfl (Or.inl rfl) ⟨rfl, by decide⟩ rfl rfl (Nat.le_of_ble_eq_true rfl) (by decide) hP_208 (Nat.le_of_ble_eq_true rfl) (fun _ => rfl) (k_f_Planner_count O f (d + 3) v0 M) (fun x1 M1 => ?_)
    refine xZ.jc_ge (me := xm218) hP_218 rfl (fun h1 => ?_) (fun h1 => ?_)
    · skip
      refine xZ.adv (me := xm218) hP_218 1 (pc' := 83) (lv' := [(0, .ref v0), (1, .ref v1), (2, .int (yw v2)), (3, .ref v3), (4, .int (yw v4)), (5, .int (yw v5))]) (st' := [.int (yw v4)]) rfl ?_
      exact xZ.jreti (me := xm218) hP_218 rfl rfl
    · skip
      refine xZ.adv (me := xm218) hP_218 2 (pc' := 24) (lv' := [(0, .ref v0), (1, .ref v1), (2, .int (yw v2)), (3, .ref v3), (4, .int (yw v4)), (5, .int (yw v5))]) (st' := [.int (yw v5), .ref v0]) rfl ?_
      refine xZ.callv (κ := oJ) (av := [.int (yw v5)]) (rest := []) (st' := fun x2 => [.int (yw x2)]) (k0 := v0) (me := xm218) hP_218 rfl (Or.inl rfl) ⟨rfl, by decide⟩ rfl rfl (Nat.le_of_ble_eq_true rfl) (by decide) hP_213 (Nat.le_of_ble_eq_true rfl) (fun _ => rfl) (k_f_Planner_numberAt O f (d + 3) v0 v5 M1) (fun x2 M2 => ?_)
      refine xZ.adv (me := xm218) hP_218 1 (pc' := 28) (lv' := [(0, .ref v0), (1, .ref v1), (2, .int (yw v2)), (3, .ref v3), (4, .int (yw v4)), (5, .int (yw v5))]) (st' := [.int (yw v2), .int (yw x2)]) rfl ?_
      refine xZ.jc_ne (me := xm218) hP_218 rfl (fun h2 => ?_) (fun h2 => ?_)
      · skip
        refine xZ.adv (me := xm218) hP_218 3 (pc' := 35) (lv' := [(0, .ref v0), (1, .ref v1), (2, .int (yw v2)), (3, .ref v3), (4, .int (yw v4)), (5, .int (yw v5))]) (st' := [.int (yw v5), .ref v0, .ref v3]) rfl ?_
        refine xZ.callv (κ := oJ) (av := [.int (yw v5)]) (rest := [.ref v3]) (st' := fun x3 => [.int (yw x3), .ref v3]) (k0 := v0) (me := xm218) hP_218 rfl (Or.inl rfl) ⟨rfl, by decide⟩ rfl rfl (Nat.le_of_ble_eq_true rfl) (by decide) hP_214 (Nat.le_of_ble_eq_true rfl) (fun _ => rfl) (k_f_Planner_dayByPlace O f (d + 3) v0 v5 M2) (fun x3 M3 => ?_)
        refine xZ.callv (κ := oJ) (av := [.int (yw x3)]) (rest := []) (st' := fun x4 => [.int (yw x4)]) (k0 := v3) (me := xm218) hP_218 rfl (Or.inl rfl) ⟨rfl, by decide⟩ rfl rfl (Nat.le_of_ble_eq_true rfl) (by decide) hP_104 (Nat.le_of_ble_eq_true rfl) (fun _ => rfl) (k_f_Series_exceptionOf O f (d + 4) v3 x3 M3) (fun x4 M4 => ?_)
        refine xZ.adv (me := xm218) hP_218 1 (pc' := 42) (lv' := [(0, .ref v0), (1, .ref v1), (2, .int (yw v2)), (3, .ref v3), (4, .int (yw v4)), (5, .int (yw v5))]) (st' := [.int (-1 : Int32), .int (yw x4)]) rfl ?_
        refine xZ.eqs (lv2 := [(0, .ref v0), (1, .ref v1), (2, .int (yw v2)), (3, .ref v3), (4, .int (yw v4)), (5, .int (yw v5))]) (st2 := [.int (yw (-1)), .int (yw x4)]) rfl (by simp only [yl_lit, yL_lit, yw_add, yw_sub, yw_mul, yw_neg, yl_add, yl_sub, yl_mul, cj_and, cj_or, cj_xor, cj_shl, cj_shr, cj_ushr, cj_div, cj_i2c, cj_i2b, cj_dc, ck_and, ck_or, ck_xor, ck_shl, ck_shr, ck_ushr, ck_i2l, ck_l2i, ck_cmp]) ?_
        refine xZ.jc_eq (me := xm218) hP_218 rfl (fun h3 => ?_) (fun h3 => ?_)
        · skip
          refine xZ.adv (me := xm218) hP_218 3 (pc' := 51) (lv' := [(0, .ref v0), (1, .ref v1), (2, .int (yw v2)), (3, .ref v3), (4, .int (yw v4)), (5, .int (yw v5))]) (st' := [.ref v3, .ref v1, .ref v3]) rfl ?_
          refine xZ.callv (κ := oR) (av := [.ref v3]) (rest := [.ref v3]) (st' := fun x5 => [.ref x5, .ref v3]) (k0 := v1) (me := xm218) hP_218 rfl (Or.inl rfl) ⟨rfl, by decide⟩ rfl rfl (Nat.le_of_ble_eq_true rfl) (by decide) hP_102 (Nat.le_of_ble_eq_true rfl) (fun _ => rfl) (k_f_Hall_zoneOf O f (d + 3) v1 v3 M4) (fun x5 M5 => ?_)
          refine xZ.adv (me := xm218) hP_218 2 (pc' := 57) (lv' := [(0, .ref v0), (1, .ref v1), (2, .int (yw v2)), (3, .ref v3), (4, .int (yw v4)), (5, .int (yw v5))]) (st' := [.int (yw v5), .ref v0, .ref x5, .ref v3]) rfl ?_
          refine xZ.callv (κ := oJ) (av := [.int (yw v5)]) (rest := [.ref x5, .ref v3]) (st' := fun x6 => [.int (yw x6), .ref x5, .ref v3]) (k0 := v0) (me := xm218) hP_218 rfl (Or.inl rfl) ⟨rfl, by decide⟩ rfl rfl (Nat.le_of_ble_eq_true rfl) (by decide) hP_214 (Nat.le_of_ble_eq_true rfl) (fun _ => rfl) (k_f_Planner_dayByPlace O f (d + 3) v0 v5 M5) (fun x6 M6 => ?_)
          refine xZ.callv (κ := oJ) (av := [.ref x5, .int (yw x6)]) (rest := []) (st' := fun x7 => [.int (yw x7)]) (k0 := v3) (me := xm218) hP_218 rfl (Or.inl rfl) ⟨rfl, by decide⟩ rfl rfl (Nat.le_of_ble_eq_true rfl) (by decide) hP_103 (Nat.le_of_ble_eq_true rfl) (fun _ => rfl) (k_f_Series_beginOf O f (d + 0) v3 x5 x6 M6) (fun x7 M7 => ?_)
          refine xZ.adv (me := xm218) hP_218 2 (pc' := 66) (lv' := [(0, .ref v0), (1, .ref v1), (2, .int (yw v2)), (3, .ref v3), (4, .int (yw v4)), (5, .int (yw v5))]) (st' := [.int (yw v5), .ref v0, .int (yw x7)]) rfl ?_
          refine xZ.callv (κ := oJ) (av := [.int (yw v5)]) (rest := [.int (yw x7)]) (st' := fun x8 => [.int (yw x8), .int (yw x7)]) (k0 := v0) (me := xm218) hP_218 rfl (Or.inl rfl) ⟨rfl, by decide⟩ rfl rfl (Nat.le_of_ble_eq_true rfl) (by decide) hP_215 (Nat.le_of_ble_eq_true rfl) (fun _ => rfl) (k_f_Planner_beginAt O f (d + 4) v0 v5 M7) (fun x8 M8 => ?_)
          refine xZ.jc_eq (me := xm218) hP_218 rfl (fun h4 => ?_) (fun h4 => ?_)
          · skip
            refine xZ.adv (me := xm218) hP_218 2 (pc' := 12) (lv' := [(5, .int ((yw v5) + (1 : Int32))), (0, .ref v0), (1, .ref v1), (2, .int (yw v2)), (3, .ref v3), (4, .int (yw v4))]) (st' := []) rfl ?_
            refine xZ.eqs (lv2 := [(5, .int (yw (v5 + 1))), (0, .ref v0), (1, .ref v1), (2, .int (yw v2)), (3, .ref v3), (4, .int (yw v4))]) (st2 := []) (by simp only [yl_lit, yL_lit, yw_add, yw_sub, yw_mul, yw_neg, yl_add, yl_sub, yl_mul, cj_and, cj_or, cj_xor, cj_shl, cj_shr, cj_ushr, cj_div, cj_i2c, cj_i2b, cj_dc, ck_and, ck_or, ck_xor, ck_shl, ck_shr, ck_ushr, ck_i2l, ck_l2i, ck_cmp]) rfl ?_
            exact xZ.sub (xsc (.tail _ (.head _)) (xsc (.tail _ (.tail _ (.head _))) (xsc (.tail _ (.tail _ (.tail _ (.head _)))) (xsc (.tail _ (.tail _ (.tail _ (.tail _ (.head _))))) (xsc (.tail _ (.tail _ (.tail _ (.tail _ (.tail _ (.head _)))))) (xsc (.head _) xsn)))))) (show ([5, 0, 1, 2, 3, 4] : List Nat).Nodup from by decide) (ih v0 v1 v2 v3 v4 (v5 + 1) M8)
          · skip
            refine xZ.adv (me := xm218) hP_218 3 (pc' := 12) (lv' := [(5, .int ((yw v5) + (1 : Int32))), (4, .int ((yw v4) + (1 : Int32))), (0, .ref v0), (1, .ref v1), (2, .int (yw v2)), (3, .ref v3)]) (st' := []) rfl ?_
            refine xZ.eqs (lv2 := [(5, .int (yw (v5 + 1))), (4, .int (yw (v4 + 1))), (0, .ref v0), (1, .ref v1), (2, .int (yw v2)), (3, .ref v3)]) (st2 := []) (by simp only [yl_lit, yL_lit, yw_add, yw_sub, yw_mul, yw_neg, yl_add, yl_sub, yl_mul, cj_and, cj_or, cj_xor, cj_shl, cj_shr, cj_ushr, cj_div, cj_i2c, cj_i2b, cj_dc, ck_and, ck_or, ck_xor, ck_shl, ck_shr, ck_ushr, ck_i2l, ck_l2i, ck_cmp]) rfl ?_
            exact xZ.sub (xsc (.tail _ (.tail _ (.head _))) (xsc (.tail _ (.tail _ (.tail _ (.head _)))) (xsc (.tail _ (.tail _ (.tail _ (.tail _ (.head _))))) (xsc (.tail _ (.tail _ (.tail _ (.tail _ (.tail _ (.head _)))))) (xsc (.tail _ (.head _)) (xsc (.head _) xsn)))))) (show ([5, 4, 0, 1, 2, 3] : List Nat).Nodup from by decide) (ih v0 v1 v2 v3 (v4 + 1) (v5 + 1) M8)
        · skip
          refine xZ.adv (me := xm218) hP_218 3 (pc' := 12) (lv' := [(5, .int ((yw v5) + (1 : Int32))), (0, .ref v0), (1, .ref v1), (2, .int (yw v2)), (3, .ref v3), (4, .int (yw v4))]) (st' := []) rfl ?_
          refine xZ.eqs (lv2 := [(5, .int (yw (v5 + 1))), (0, .ref v0), (1, .ref v1), (2, .int (yw v2)), (3, .ref v3), (4, .int (yw v4))]) (st2 := []) (by simp only [yl_lit, yL_lit, yw_add, yw_sub, yw_mul, yw_neg, yl_add, yl_sub, yl_mul, cj_and, cj_or, cj_xor, cj_shl, cj_shr, cj_ushr, cj_div, cj_i2c, cj_i2b, cj_dc, ck_and, ck_or, ck_xor, ck_shl, ck_shr, ck_ushr, ck_i2l, ck_l2i, ck_cmp]) rfl ?_
          exact xZ.sub (xsc (.tail _ (.head _)) (xsc (.tail _ (.tail _ (.head _))) (xsc (.tail _ (.tail _ (.tail _ (.head _)))) (xsc (.tail _ (.tail _ (.tail _ (.tail _ (.head _))))) (xsc (.tail _ (.tail _ (.tail _ (.tail _ (.tail _ (.head _)))))) (xsc (.head _) xsn)))))) (show ([5, 0, 1, 2, 3, 4] : List Nat).Nodup from by decide) (ih v0 v1 v2 v3 v4 (v5 + 1) M4)
      · skip
        refine xZ.adv (me := xm218) hP_218 2 (pc' := 12) (lv' := [(5, .int ((yw v5) + (1 : Int32))), (0, .ref v0), (1, .ref v1), (2, .int (yw v2)), (3, .ref v3), (4, .int (yw v4))]) (st' := []) rfl ?_
        refine xZ.eqs (lv2 := [(5, .int (yw (v5 + 1))), (0, .ref v0), (1, .ref v1), (2, .int (yw v2)), (3, .ref v3), (4, .int (yw v4))]) (st2 := []) (by simp only [yl_lit, yL_lit, yw_add, yw_sub, yw_mul, yw_neg, yl_add, yl_sub, yl_mul, cj_and, cj_or, cj_xor, cj_shl, cj_shr, cj_ushr, cj_div, cj_i2c, cj_i2b, cj_dc, ck_and, ck_or, ck_xor, ck_shl, ck_shr, ck_ushr, ck_i2l, ck_l2i, ck_cmp]) rfl ?_
        exact xZ.sub (xsc (.tail _ (.head _)) (xsc (.tail _ (.tail _ (.head _))) (xsc (.tail _ (.tail _ (.tail _ (.head _)))) (xsc (.tail _ (.tail _ (.tail _ (.tail _ (.head _))))) (xsc (.tail _ (.tail _ (.tail _ (.tail _ (.tail _ (.head _)))))) (xsc (.head _) xsn)))))) (show ([5, 0, 1, 2, 3, 4] : List Nat).Nodup from by decide) (ih v0 v1 v2 v3 v4 (v5 + 1) M2)
def f_Planner_newExceptions (O : Nat → Option va_E) (f : Nat) (v0 : Nat) (v1 : Nat) (v2 : Int) (M : xM) : Option (Int × xM) :=
  (isO O M v1 4).bind fun _ =>
  xcl (f_Hall_anySeries O f v1 v2 M) fun x1 M1 =>
  f_Planner_newExceptions_12 O f f v0 v1 v2 x1 0 0 M1
set_option maxRecDepth 20000 in
theorem k_f_Planner_newExceptions (O : Nat → Option va_E) (f d : Nat) (v0 : Nat) (v1 : Nat) (v2 : Int) (M : xM) : xZ oJ O (d + 5) 218 0 [(0, .ref v0), (1, .ref v1), (2, .int (yw v2))] [] M (f_Planner_newExceptions O f v0 v1 v2 M) := by
  unfold f_Planner_newExceptions
  refine xZ.adv (me := xm218) hP_218 2 (pc' := 2) (lv' := [(0, .ref v0), (1, .ref v1), (2, .int (yw v2))]) (st' := [.int (yw v2), .ref v1]) rfl ?_
  refine xZ.callv (κ := oR) (av := [.int (yw v2)]) (rest := []) (st' := fun x1 => [.ref x1]) (k0 := v1) (me := xm218) hP_218 rfl (Or.inl rfl) ⟨rfl, by decide⟩ rfl rfl (Nat.le_of_ble_eq_true rfl) (by decide) hP_29 (Nat.le_of_ble_eq_true rfl) (fun _ => rfl) (k_f_Hall_anySeries O f (d + 4) v1 v2 M) (fun x1 M1 => ?_)
  refine xZ.adv (me := xm218) hP_218 5 (pc' := 12) (lv' := [(5, .int (0 : Int32)), (4, .int (0 : Int32)), (3, .ref x1), (0, .ref v0), (1, .ref v1), (2, .int (yw v2))]) (st' := []) rfl ?_
  refine xZ.eqs (lv2 := [(5, .int (yw 0)), (4, .int (yw 0)), (3, .ref x1), (0, .ref v0), (1, .ref v1), (2, .int (yw v2))]) (st2 := []) (by simp only [yl_lit, yL_lit, yw_add, yw_sub, yw_mul, yw_neg, yl_add, yl_sub, yl_mul, cj_and, cj_or, cj_xor, cj_shl, cj_shr, cj_ushr, cj_div, cj_i2c, cj_i2b, cj_dc, ck_and, ck_or, ck_xor, ck_shl, ck_shr, ck_ushr, ck_i2l, ck_l2i, ck_cmp]) rfl ?_
  exact xZ.sub (xsc (.tail _ (.tail _ (.tail _ (.head _)))) (xsc (.tail _ (.tail _ (.tail _ (.tail _ (.head _))))) (xsc (.tail _ (.tail _ (.tail _ (.tail _ (.tail _ (.head _)))))) (xsc (.tail _ (.tail _ (.head _))) (xsc (.tail _ (.head _)) (xsc (.head _) xsn)))))) (show ([5, 4, 3, 0, 1, 2] : List Nat).Nodup from by decide) (k_f_Planner_newExceptions_12 O f d f v0 v1 v2 x1 0 0 M1)
def f_Planner_canApply_2 (O : Nat → Option va_E) (f : Nat) : Nat → Nat → Nat → Int → xM → Option (Int × xM)
  | 0, _, _, _, _ => none
  | n + 1, v0, v1, v2, M =>
    (isO O M v0 7).bind fun _ =>
    xcl (f_Planner_count O f v0 M) fun x1 M1 =>
    if yw x1 ≤ yw v2 then (
      some (1, M1)
    ) else
    (isO O M1 v0 7).bind fun _ =>
    xcl (f_Planner_numberAt O f v0 v2 M1) fun x2 M2 =>
    (isO O M2 v1 4).bind fun _ =>
    xcl (f_Hall_anySeries O f v1 x2 M2) fun x3 M3 =>
    (gJ O M3 x3 10 0).bind fun x4 =>
    if yw x4 = yw 0 then (
      some (0, M3)
    ) else
    (gR O M3 x3 10 6).bind fun x5 =>
    (isO O M3 v0 7).bind fun _ =>
    xcl (f_Planner_dayByPlace O f v0 v2 M3) fun x6 M4 =>
    (isO O M4 x5 9).bind fun _ =>
    xcl (f_Rule_isDay O f x5 x6 M4) fun x7 M5 =>
    if yw x7 = yw 0 then (
      some (0, M5)
    ) else
    (isO O M5 v1 4).bind fun _ =>
    xcl (f_Hall_zoneOf O f v1 x3 M5) fun x8 M6 =>
    (isO O M6 v0 7).bind fun _ =>
    xcl (f_Planner_dayByPlace O f v0 v2 M6) fun x9 M7 =>
    (isO O M7 x3 10).bind fun _ =>
    xcl (f_Series_beginOf O f x3 x8 x9 M7) fun x10 M8 =>
    if yw x10 = yw (-1) then (
      some (0, M8)
    ) else
    (gJ O M8 x3 10 7).bind fun x11 =>
    (isO O M8 v0 7).bind fun _ =>
    xcl (f_Planner_numberAt O f v0 v2 M8) fun x12 M9 =>
    (isO O M9 v0 7).bind fun _ =>
    xcl (f_Planner_newExceptions O f v0 v1 x12 M9) fun x13 M10 =>
    if yw (x11 + x13) ≤ yw 10 then (
      f_Planner_canApply_2 O f n v0 v1 (v2 + 1) M10
    ) else
    some (0, M10)
set_option maxRecDepth 20000 in
theorem k_f_Planner_canApply_2 (O : Nat → Option va_E) (f d : Nat) : ∀ (n : Nat) (v0 : Nat) (v1 : Nat) (v2 : Int) (M : xM), xZ oJ O (d + 6) 217 2 [(0, .ref v0), (1, .ref v1), (2, .int (yw v2))] [] M (f_Planner_canApply_2 O f n v0 v1 v2 M) := by
  intro n
  induction n with
  | zero =>
    intro v0 v1 v2 M
    exact xZ.no
  | succ n ih =>
    intro v0 v1 v2 M
    unfold f_Planner_canApply_2
    refine xZ.adv (me := xm217) hP_217 2 (pc' := 4) (lv' := [(0, .ref v0), (1, .ref v1), (2, .int (yw v2))]) (st' := [.ref v0, .int (yw v2)]) rfl ?_
    refine xZ.callv (κ := oJ) (av := []) (rest := [.int (yw v2)]) (st' := fun x1 => [.int (yw x1), .int (yw v2)]) (k0 := v0) (me := xm217) hP_217 rfl (Or.inl rfl) ⟨rfl, by decide⟩ rfl rfl (Nat.le_of_ble_eq_true rfl) (by decide) hP_208 (Nat.le_of_ble_eq_true rfl) (fun _ => rfl) (k_f_Planner_count O f (d + 4) v0 M) (fun x1 M1 => ?_)
    refine xZ.jc_ge (me := xm217) hP_217 rfl (fun h1 => ?_) (fun h1 => ?_)
    · skip
      refine xZ.adv (me := xm217) hP_217 1 (pc' := 93) (lv' := [(0, .ref v0), (1, .ref v1), (2, .int (yw v2))]) (st' := [.int (1 : Int32)]) rfl ?_
      refine xZ.eqs (lv2 := [(0, .ref v0), (1, .ref v1), (2, .int (yw v2))]) (st2 := [.int (yw 1)]) rfl (by simp only [yl_lit, yL_lit, yw_add, yw_sub, yw_mul, yw_neg, yl_add, yl_sub, yl_mul, cj_and, cj_or, cj_xor, cj_shl, cj_shr, cj_ushr, cj_div, cj_i2c, cj_i2b, cj_dc, ck_and, ck_or, ck_xor, ck_shl, ck_shr, ck_ushr, ck_i2l, ck_l2i, ck_cmp]) ?_
      exact xZ.jrete (me := xm217) hP_217 rfl rfl rfl
    · skip
      refine xZ.adv (me := xm217) hP_217 3 (pc' := 13) (lv' := [(0, .ref v0), (1, .ref v1), (2, .int (yw v2))]) (st' := [.int (yw v2), .ref v0, .ref v1]) rfl ?_
      refine xZ.callv (κ := oJ) (av := [.int (yw v2)]) (rest := [.ref v1]) (st' := fun x2 => [.int (yw x2), .ref v1]) (k0 := v0) (me := xm217) hP_217 rfl (Or.inl rfl) ⟨rfl, by decide⟩ rfl rfl (Nat.le_of_ble_eq_true rfl) (by decide) hP_213 (Nat.le_of_ble_eq_true rfl) (fun _ => rfl) (k_f_Planner_numberAt O f (d + 4) v0 v2 M1) (fun x2 M2 => ?_)
      refine xZ.callv (κ := oR) (av := [.int (yw x2)]) (rest := []) (st' := fun x3 => [.ref x3]) (k0 := v1) (me := xm217) hP_217 rfl (Or.inl rfl) ⟨rfl, by decide⟩ rfl rfl (Nat.le_of_ble_eq_true rfl) (by decide) hP_29 (Nat.le_of_ble_eq_true rfl) (fun _ => rfl) (k_f_Hall_anySeries O f (d + 5) v1 x2 M2) (fun x3 M3 => ?_)
      refine xZ.adv (me := xm217) hP_217 2 (pc' := 21) (lv' := [(3, .ref x3), (0, .ref v0), (1, .ref v1), (2, .int (yw v2))]) (st' := [.ref x3]) rfl ?_
      refine xZ.k_gJ (me := xm217) hP_217 rfl (fun x4 => ?_)
      refine xZ.jf_eq (me := xm217) hP_217 rfl (fun h2 => ?_) (fun h2 => ?_)
      · skip
        refine xZ.adv (me := xm217) hP_217 1 (pc' := 43) (lv' := [(3, .ref x3), (0, .ref v0), (1, .ref v1), (2, .int (yw v2))]) (st' := [.int (0 : Int32)]) rfl ?_
        refine xZ.eqs (lv2 := [(3, .ref x3), (0, .ref v0), (1, .ref v1), (2, .int (yw v2))]) (st2 := [.int (yw 0)]) rfl (by simp only [yl_lit, yL_lit, yw_add, yw_sub, yw_mul, yw_neg, yl_add, yl_sub, yl_mul, cj_and, cj_or, cj_xor, cj_shl, cj_shr, cj_ushr, cj_div, cj_i2c, cj_i2b, cj_dc, ck_and, ck_or, ck_xor, ck_shl, ck_shr, ck_ushr, ck_i2l, ck_l2i, ck_cmp]) ?_
        exact xZ.jrete (me := xm217) hP_217 rfl rfl rfl
      · skip
        refine xZ.adv (me := xm217) hP_217 1 (pc' := 28) (lv' := [(3, .ref x3), (0, .ref v0), (1, .ref v1), (2, .int (yw v2))]) (st' := [.ref x3]) rfl ?_
        refine xZ.k_gR (me := xm217) hP_217 rfl (fun x5 => ?_)
        refine xZ.adv (me := xm217) hP_217 2 (pc' := 33) (lv' := [(3, .ref x3), (0, .ref v0), (1, .ref v1), (2, .int (yw v2))]) (st' := [.int (yw v2), .ref v0, .ref x5]) rfl ?_
        refine xZ.callv (κ := oJ) (av := [.int (yw v2)]) (rest := [.ref x5]) (st' := fun x6 => [.int (yw x6), .ref x5]) (k0 := v0) (me := xm217) hP_217 rfl (Or.inl rfl) ⟨rfl, by decide⟩ rfl rfl (Nat.le_of_ble_eq_true rfl) (by decide) hP_214 (Nat.le_of_ble_eq_true rfl) (fun _ => rfl) (k_f_Planner_dayByPlace O f (d + 4) v0 v2 M3) (fun x6 M4 => ?_)
        refine xZ.callv (κ := oJ) (av := [.int (yw x6)]) (rest := []) (st' := fun x7 => [.int (yw x7)]) (k0 := x5) (me := xm217) hP_217 rfl (Or.inl rfl) ⟨rfl, by decide⟩ rfl rfl (Nat.le_of_ble_eq_true rfl) (by decide) hP_99 (Nat.le_of_ble_eq_true rfl) (fun _ => rfl) (k_f_Rule_isDay O f (d + 2) x5 x6 M4) (fun x7 M5 => ?_)
        refine xZ.jf_ne (me := xm217) hP_217 rfl (fun h3 => ?_) (fun h3 => ?_)
        · skip
          refine xZ.adv (me := xm217) hP_217 1 (pc' := 43) (lv' := [(3, .ref x3), (0, .ref v0), (1, .ref v1), (2, .int (yw v2))]) (st' := [.int (0 : Int32)]) rfl ?_
          refine xZ.eqs (lv2 := [(3, .ref x3), (0, .ref v0), (1, .ref v1), (2, .int (yw v2))]) (st2 := [.int (yw 0)]) rfl (by simp only [yl_lit, yL_lit, yw_add, yw_sub, yw_mul, yw_neg, yl_add, yl_sub, yl_mul, cj_and, cj_or, cj_xor, cj_shl, cj_shr, cj_ushr, cj_div, cj_i2c, cj_i2b, cj_dc, ck_and, ck_or, ck_xor, ck_shl, ck_shr, ck_ushr, ck_i2l, ck_l2i, ck_cmp]) ?_
          exact xZ.jrete (me := xm217) hP_217 rfl rfl rfl
        · skip
          refine xZ.adv (me := xm217) hP_217 3 (pc' := 47) (lv' := [(3, .ref x3), (0, .ref v0), (1, .ref v1), (2, .int (yw v2))]) (st' := [.ref x3, .ref v1, .ref x3]) rfl ?_
          refine xZ.callv (κ := oR) (av := [.ref x3]) (rest := [.ref x3]) (st' := fun x8 => [.ref x8, .ref x3]) (k0 := v1) (me := xm217) hP_217 rfl (Or.inl rfl) ⟨rfl, by decide⟩ rfl rfl (Nat.le_of_ble_eq_true rfl) (by decide) hP_102 (Nat.le_of_ble_eq_true rfl) (fun _ => rfl) (k_f_Hall_zoneOf O f (d + 4) v1 x3 M5) (fun x8 M6 => ?_)
          refine xZ.adv (me := xm217) hP_217 2 (pc' := 52) (lv' := [(3, .ref x3), (0, .ref v0), (1, .ref v1), (2, .int (yw v2))]) (st' := [.int (yw v2), .ref v0, .ref x8, .ref x3]) rfl ?_
          refine xZ.callv (κ := oJ) (av := [.int (yw v2)]) (rest := [.ref x8, .ref x3]) (st' := fun x9 => [.int (yw x9), .ref x8, .ref x3]) (k0 := v0) (me := xm217) hP_217 rfl (Or.inl rfl) ⟨rfl, by decide⟩ rfl rfl (Nat.le_of_ble_eq_true rfl) (by decide) hP_214 (Nat.le_of_ble_eq_true rfl) (fun _ => rfl) (k_f_Planner_dayByPlace O f (d + 4) v0 v2 M6) (fun x9 M7 => ?_)
          refine xZ.callv (κ := oJ) (av := [.ref x8, .int (yw x9)]) (rest := []) (st' := fun x10 => [.int (yw x10)]) (k0 := x3) (me := xm217) hP_217 rfl (Or.inl rfl) ⟨rfl, by decide⟩ rfl rfl (Nat.le_of_ble_eq_true rfl) (by decide) hP_103 (Nat.le_of_ble_eq_true rfl) (fun _ => rfl) (k_f_Series_beginOf O f (d + 1) x3 x8 x9 M7) (fun x10 M8 => ?_)
          refine xZ.adv (me := xm217) hP_217 1 (pc' := 59) (lv' := [(3, .ref x3), (0, .ref v0), (1, .ref v1), (2, .int (yw v2))]) (st' := [.int (-1 : Int32), .int (yw x10)]) rfl ?_
          refine xZ.eqs (lv2 := [(3, .ref x3), (0, .ref v0), (1, .ref v1), (2, .int (yw v2))]) (st2 := [.int (yw (-1)), .int (yw x10)]) rfl (by simp only [yl_lit, yL_lit, yw_add, yw_sub, yw_mul, yw_neg, yl_add, yl_sub, yl_mul, cj_and, cj_or, cj_xor, cj_shl, cj_shr, cj_ushr, cj_div, cj_i2c, cj_i2b, cj_dc, ck_and, ck_or, ck_xor, ck_shl, ck_shr, ck_ushr, ck_i2l, ck_l2i, ck_cmp]) ?_
          refine xZ.jc_ne (me := xm217) hP_217 rfl (fun h4 => ?_) (fun h4 => ?_)
          · skip
            refine xZ.adv (me := xm217) hP_217 1 (pc' := 63) (lv' := [(3, .ref x3), (0, .ref v0), (1, .ref v1), (2, .int (yw v2))]) (st' := [.int (0 : Int32)]) rfl ?_
            refine xZ.eqs (lv2 := [(3, .ref x3), (0, .ref v0), (1, .ref v1), (2, .int (yw v2))]) (st2 := [.int (yw 0)]) rfl (by simp only [yl_lit, yL_lit, yw_add, yw_sub, yw_mul, yw_neg, yl_add, yl_sub, yl_mul, cj_and, cj_or, cj_xor, cj_shl, cj_shr, cj_ushr, cj_div, cj_i2c, cj_i2b, cj_dc, ck_and, ck_or, ck_xor, ck_shl, ck_shr, ck_ushr, ck_i2l, ck_l2i, ck_cmp]) ?_
            exact xZ.jrete (me := xm217) hP_217 rfl rfl rfl
          · skip
            refine xZ.adv (me := xm217) hP_217 1 (pc' := 65) (lv' := [(3, .ref x3), (0, .ref v0), (1, .ref v1), (2, .int (yw v2))]) (st' := [.ref x3]) rfl ?_
            refine xZ.k_gJ (me := xm217) hP_217 rfl (fun x11 => ?_)
            refine xZ.adv (me := xm217) hP_217 4 (pc' := 72) (lv' := [(3, .ref x3), (0, .ref v0), (1, .ref v1), (2, .int (yw v2))]) (st' := [.int (yw v2), .ref v0, .ref v1, .ref v0, .int (yw x11)]) rfl ?_
            refine xZ.callv (κ := oJ) (av := [.int (yw v2)]) (rest := [.ref v1, .ref v0, .int (yw x11)]) (st' := fun x12 => [.int (yw x12), .ref v1, .ref v0, .int (yw x11)]) (k0 := v0) (me := xm217) hP_217 rfl (Or.inl rfl) ⟨rfl, by decide⟩ rfl rfl (Nat.le_of_ble_eq_true rfl) (by decide) hP_213 (Nat.le_of_ble_eq_true rfl) (fun _ => rfl) (k_f_Planner_numberAt O f (d + 4) v0 v2 M8) (fun x12 M9 => ?_)
            refine xZ.callv (κ := oJ) (av := [.ref v1, .int (yw x12)]) (rest := [.int (yw x11)]) (st' := fun x13 => [.int (yw x13), .int (yw x11)]) (k0 := v0) (me := xm217) hP_217 rfl (Or.inl rfl) ⟨rfl, by decide⟩ rfl rfl (Nat.le_of_ble_eq_true rfl) (by decide) hP_218 (Nat.le_of_ble_eq_true rfl) (fun _ => rfl) (k_f_Planner_newExceptions O f (d + 0) v0 v1 x12 M9) (fun x13 M10 => ?_)
            refine xZ.adv (me := xm217) hP_217 2 (pc' := 81) (lv' := [(3, .ref x3), (0, .ref v0), (1, .ref v1), (2, .int (yw v2))]) (st' := [.int (10 : Int32), .int ((yw x11) + (yw x13))]) rfl ?_
            refine xZ.eqs (lv2 := [(3, .ref x3), (0, .ref v0), (1, .ref v1), (2, .int (yw v2))]) (st2 := [.int (yw 10), .int (yw (x11 + x13))]) rfl (by simp only [yl_lit, yL_lit, yw_add, yw_sub, yw_mul, yw_neg, yl_add, yl_sub, yl_mul, cj_and, cj_or, cj_xor, cj_shl, cj_shr, cj_ushr, cj_div, cj_i2c, cj_i2b, cj_dc, ck_and, ck_or, ck_xor, ck_shl, ck_shr, ck_ushr, ck_i2l, ck_l2i, ck_cmp]) ?_
            refine xZ.jc_le (me := xm217) hP_217 rfl (fun h5 => ?_) (fun h5 => ?_)
            · skip
              refine xZ.adv (me := xm217) hP_217 2 (pc' := 2) (lv' := [(2, .int ((yw v2) + (1 : Int32))), (3, .ref x3), (0, .ref v0), (1, .ref v1)]) (st' := []) rfl ?_
              refine xZ.eqs (lv2 := [(2, .int (yw (v2 + 1))), (3, .ref x3), (0, .ref v0), (1, .ref v1)]) (st2 := []) (by simp only [yl_lit, yL_lit, yw_add, yw_sub, yw_mul, yw_neg, yl_add, yl_sub, yl_mul, cj_and, cj_or, cj_xor, cj_shl, cj_shr, cj_ushr, cj_div, cj_i2c, cj_i2b, cj_dc, ck_and, ck_or, ck_xor, ck_shl, ck_shr, ck_ushr, ck_i2l, ck_l2i, ck_cmp]) rfl ?_
              exact xZ.sub (xsc (.tail _ (.tail _ (.head _))) (xsc (.tail _ (.tail _ (.tail _ (.head _)))) (xsc (.head _) xsn))) (show ([2, 3, 0, 1] : List Nat).Nodup from by decide) (ih v0 v1 (v2 + 1) M10)
            · skip
              refine xZ.adv (me := xm217) hP_217 1 (pc' := 85) (lv' := [(3, .ref x3), (0, .ref v0), (1, .ref v1), (2, .int (yw v2))]) (st' := [.int (0 : Int32)]) rfl ?_
              refine xZ.eqs (lv2 := [(3, .ref x3), (0, .ref v0), (1, .ref v1), (2, .int (yw v2))]) (st2 := [.int (yw 0)]) rfl (by simp only [yl_lit, yL_lit, yw_add, yw_sub, yw_mul, yw_neg, yl_add, yl_sub, yl_mul, cj_and, cj_or, cj_xor, cj_shl, cj_shr, cj_ushr, cj_div, cj_i2c, cj_i2b, cj_dc, ck_and, ck_or, ck_xor, ck_shl, ck_shr, ck_ushr, ck_i2l, ck_l2i, ck_cmp]) ?_
              exact xZ.jrete (me := xm217) hP_217 rfl rfl rfl
def f_Planner_canApply (O : Nat → Option va_E) (f : Nat) (v0 : Nat) (v1 : Nat) (M : xM) : Option (Int × xM) :=
  f_Planner_canApply_2 O f f v0 v1 0 M
set_option maxRecDepth 20000 in
theorem k_f_Planner_canApply (O : Nat → Option va_E) (f d : Nat) (v0 : Nat) (v1 : Nat) (M : xM) : xZ oJ O (d + 6) 217 0 [(0, .ref v0), (1, .ref v1)] [] M (f_Planner_canApply O f v0 v1 M) := by
  unfold f_Planner_canApply
  refine xZ.adv (me := xm217) hP_217 2 (pc' := 2) (lv' := [(2, .int (0 : Int32)), (0, .ref v0), (1, .ref v1)]) (st' := []) rfl ?_
  refine xZ.eqs (lv2 := [(2, .int (yw 0)), (0, .ref v0), (1, .ref v1)]) (st2 := []) (by simp only [yl_lit, yL_lit, yw_add, yw_sub, yw_mul, yw_neg, yl_add, yl_sub, yl_mul, cj_and, cj_or, cj_xor, cj_shl, cj_shr, cj_ushr, cj_div, cj_i2c, cj_i2b, cj_dc, ck_and, ck_or, ck_xor, ck_shl, ck_shr, ck_ushr, ck_i2l, ck_l2i, ck_cmp]) rfl ?_
  exact xZ.sub (xsc (.tail _ (.head _)) (xsc (.tail _ (.tail _ (.head _))) (xsc (.head _) xsn))) (show ([2, 0, 1] : List Nat).Nodup from by decide) (k_f_Planner_canApply_2 O f d f v0 v1 0 M)
def f_Planner_applyTo (O : Nat → Option va_E) (f : Nat) (v0 : Nat) (v1 : Nat) (v2 : Int) (M : xM) : Option (Int × xM) :=
  (isO O M v0 7).bind fun _ =>
  xcl (f_Planner_numberAt O f v0 v2 M) fun x1 M1 =>
  (isO O M1 v1 4).bind fun _ =>
  xcl (f_Hall_anySeries O f v1 x1 M1) fun x2 M2 =>
  (isO O M2 v1 4).bind fun _ =>
  xcl (f_Hall_zoneOf O f v1 x2 M2) fun x3 M3 =>
  (isO O M3 v0 7).bind fun _ =>
  xcl (f_Planner_dayByPlace O f v0 v2 M3) fun x4 M4 =>
  (isO O M4 x2 10).bind fun _ =>
  xcl (f_Series_beginOf O f x2 x3 x4 M4) fun x5 M5 =>
  (isO O M5 v0 7).bind fun _ =>
  xcl (f_Planner_beginAt O f v0 v2 M5) fun x6 M6 =>
  if yw x5 = yw x6 then (
    some (0, M6)
  ) else
  (isO O M6 v0 7).bind fun _ =>
  xcl (f_Planner_beginAt O f v0 v2 M6) fun x7 M7 =>
  (isO O M7 x3 11).bind fun _ =>
  xcl (f_Zone_localOf O f x3 x7 M7) fun x8 M8 =>
  (isO O M8 x2 10).bind fun _ =>
  xcl (f_Series_except O f x2 x4 x8 M8) fun _ M9 =>
  some (1, M9)
set_option maxRecDepth 20000 in
theorem k_f_Planner_applyTo (O : Nat → Option va_E) (f d : Nat) (v0 : Nat) (v1 : Nat) (v2 : Int) (M : xM) : xZ oJ O (d + 5) 219 0 [(0, .ref v0), (1, .ref v1), (2, .int (yw v2))] [] M (f_Planner_applyTo O f v0 v1 v2 M) := by
  unfold f_Planner_applyTo
  refine xZ.adv (me := xm219) hP_219 3 (pc' := 3) (lv' := [(0, .ref v0), (1, .ref v1), (2, .int (yw v2))]) (st' := [.int (yw v2), .ref v0, .ref v1]) rfl ?_
  refine xZ.callv (κ := oJ) (av := [.int (yw v2)]) (rest := [.ref v1]) (st' := fun x1 => [.int (yw x1), .ref v1]) (k0 := v0) (me := xm219) hP_219 rfl (Or.inl rfl) ⟨rfl, by decide⟩ rfl rfl (Nat.le_of_ble_eq_true rfl) (by decide) hP_213 (Nat.le_of_ble_eq_true rfl) (fun _ => rfl) (k_f_Planner_numberAt O f (d + 3) v0 v2 M) (fun x1 M1 => ?_)
  refine xZ.callv (κ := oR) (av := [.int (yw x1)]) (rest := []) (st' := fun x2 => [.ref x2]) (k0 := v1) (me := xm219) hP_219 rfl (Or.inl rfl) ⟨rfl, by decide⟩ rfl rfl (Nat.le_of_ble_eq_true rfl) (by decide) hP_29 (Nat.le_of_ble_eq_true rfl) (fun _ => rfl) (k_f_Hall_anySeries O f (d + 4) v1 x1 M1) (fun x2 M2 => ?_)
  refine xZ.adv (me := xm219) hP_219 3 (pc' := 12) (lv' := [(3, .ref x2), (0, .ref v0), (1, .ref v1), (2, .int (yw v2))]) (st' := [.ref x2, .ref v1]) rfl ?_
  refine xZ.callv (κ := oR) (av := [.ref x2]) (rest := []) (st' := fun x3 => [.ref x3]) (k0 := v1) (me := xm219) hP_219 rfl (Or.inl rfl) ⟨rfl, by decide⟩ rfl rfl (Nat.le_of_ble_eq_true rfl) (by decide) hP_102 (Nat.le_of_ble_eq_true rfl) (fun _ => rfl) (k_f_Hall_zoneOf O f (d + 3) v1 x2 M2) (fun x3 M3 => ?_)
  refine xZ.adv (me := xm219) hP_219 3 (pc' := 19) (lv' := [(4, .ref x3), (3, .ref x2), (0, .ref v0), (1, .ref v1), (2, .int (yw v2))]) (st' := [.int (yw v2), .ref v0]) rfl ?_
  refine xZ.callv (κ := oJ) (av := [.int (yw v2)]) (rest := []) (st' := fun x4 => [.int (yw x4)]) (k0 := v0) (me := xm219) hP_219 rfl (Or.inl rfl) ⟨rfl, by decide⟩ rfl rfl (Nat.le_of_ble_eq_true rfl) (by decide) hP_214 (Nat.le_of_ble_eq_true rfl) (fun _ => rfl) (k_f_Planner_dayByPlace O f (d + 3) v0 v2 M3) (fun x4 M4 => ?_)
  refine xZ.adv (me := xm219) hP_219 4 (pc' := 29) (lv' := [(5, .int (yw x4)), (4, .ref x3), (3, .ref x2), (0, .ref v0), (1, .ref v1), (2, .int (yw v2))]) (st' := [.int (yw x4), .ref x3, .ref x2]) rfl ?_
  refine xZ.callv (κ := oJ) (av := [.ref x3, .int (yw x4)]) (rest := []) (st' := fun x5 => [.int (yw x5)]) (k0 := x2) (me := xm219) hP_219 rfl (Or.inl rfl) ⟨rfl, by decide⟩ rfl rfl (Nat.le_of_ble_eq_true rfl) (by decide) hP_103 (Nat.le_of_ble_eq_true rfl) (fun _ => rfl) (k_f_Series_beginOf O f (d + 0) x2 x3 x4 M4) (fun x5 M5 => ?_)
  refine xZ.adv (me := xm219) hP_219 2 (pc' := 34) (lv' := [(5, .int (yw x4)), (4, .ref x3), (3, .ref x2), (0, .ref v0), (1, .ref v1), (2, .int (yw v2))]) (st' := [.int (yw v2), .ref v0, .int (yw x5)]) rfl ?_
  refine xZ.callv (κ := oJ) (av := [.int (yw v2)]) (rest := [.int (yw x5)]) (st' := fun x6 => [.int (yw x6), .int (yw x5)]) (k0 := v0) (me := xm219) hP_219 rfl (Or.inl rfl) ⟨rfl, by decide⟩ rfl rfl (Nat.le_of_ble_eq_true rfl) (by decide) hP_215 (Nat.le_of_ble_eq_true rfl) (fun _ => rfl) (k_f_Planner_beginAt O f (d + 4) v0 v2 M5) (fun x6 M6 => ?_)
  refine xZ.jc_ne (me := xm219) hP_219 rfl (fun h1 => ?_) (fun h1 => ?_)
  · skip
    refine xZ.adv (me := xm219) hP_219 1 (pc' := 41) (lv' := [(5, .int (yw x4)), (4, .ref x3), (3, .ref x2), (0, .ref v0), (1, .ref v1), (2, .int (yw v2))]) (st' := [.int (0 : Int32)]) rfl ?_
    refine xZ.eqs (lv2 := [(5, .int (yw x4)), (4, .ref x3), (3, .ref x2), (0, .ref v0), (1, .ref v1), (2, .int (yw v2))]) (st2 := [.int (yw 0)]) rfl (by simp only [yl_lit, yL_lit, yw_add, yw_sub, yw_mul, yw_neg, yl_add, yl_sub, yl_mul, cj_and, cj_or, cj_xor, cj_shl, cj_shr, cj_ushr, cj_div, cj_i2c, cj_i2b, cj_dc, ck_and, ck_or, ck_xor, ck_shl, ck_shr, ck_ushr, ck_i2l, ck_l2i, ck_cmp]) ?_
    exact xZ.jrete (me := xm219) hP_219 rfl rfl rfl
  · skip
    refine xZ.adv (me := xm219) hP_219 5 (pc' := 49) (lv' := [(5, .int (yw x4)), (4, .ref x3), (3, .ref x2), (0, .ref v0), (1, .ref v1), (2, .int (yw v2))]) (st' := [.int (yw v2), .ref v0, .ref x3, .int (yw x4), .ref x2]) rfl ?_
    refine xZ.callv (κ := oJ) (av := [.int (yw v2)]) (rest := [.ref x3, .int (yw x4), .ref x2]) (st' := fun x7 => [.int (yw x7), .ref x3, .int (yw x4), .ref x2]) (k0 := v0) (me := xm219) hP_219 rfl (Or.inl rfl) ⟨rfl, by decide⟩ rfl rfl (Nat.le_of_ble_eq_true rfl) (by decide) hP_215 (Nat.le_of_ble_eq_true rfl) (fun _ => rfl) (k_f_Planner_beginAt O f (d + 4) v0 v2 M6) (fun x7 M7 => ?_)
    refine xZ.callv (κ := oJ) (av := [.int (yw x7)]) (rest := [.int (yw x4), .ref x2]) (st' := fun x8 => [.int (yw x8), .int (yw x4), .ref x2]) (k0 := x3) (me := xm219) hP_219 rfl (Or.inl rfl) ⟨rfl, by decide⟩ rfl rfl (Nat.le_of_ble_eq_true rfl) (by decide) hP_135 (Nat.le_of_ble_eq_true rfl) (fun _ => rfl) (k_f_Zone_localOf O f (d + 1) x3 x7 M7) (fun x8 M8 => ?_)
    refine xZ.callv (κ := oU) (av := [.int (yw x4), .int (yw x8)]) (rest := []) (st' := fun _ => []) (k0 := x2) (me := xm219) hP_219 rfl (Or.inl rfl) ⟨rfl, by decide⟩ rfl rfl (Nat.le_of_ble_eq_true rfl) (by decide) hP_111 (Nat.le_of_ble_eq_true rfl) (fun _ => rfl) (k_f_Series_except O f (d + 3) x2 x4 x8 M8) (fun _ M9 => ?_)
    refine xZ.adv (me := xm219) hP_219 1 (pc' := 59) (lv' := [(5, .int (yw x4)), (4, .ref x3), (3, .ref x2), (0, .ref v0), (1, .ref v1), (2, .int (yw v2))]) (st' := [.int (1 : Int32)]) rfl ?_
    refine xZ.eqs (lv2 := [(5, .int (yw x4)), (4, .ref x3), (3, .ref x2), (0, .ref v0), (1, .ref v1), (2, .int (yw v2))]) (st2 := [.int (yw 1)]) rfl (by simp only [yl_lit, yL_lit, yw_add, yw_sub, yw_mul, yw_neg, yl_add, yl_sub, yl_mul, cj_and, cj_or, cj_xor, cj_shl, cj_shr, cj_ushr, cj_div, cj_i2c, cj_i2b, cj_dc, ck_and, ck_or, ck_xor, ck_shl, ck_shr, ck_ushr, ck_i2l, ck_l2i, ck_cmp]) ?_
    exact xZ.jrete (me := xm219) hP_219 rfl rfl rfl
def f_Calendarhall_applyPlan_40 (O : Nat → Option va_E) (f : Nat) : Nat → Nat → Int → Int → xM → Option (Int × xM)
  | 0, _, _, _, _ => none
  | n + 1, v0, v1, v2, M =>
    (gR O M v0 12 6).bind fun x1 =>
    (isO O M x1 7).bind fun _ =>
    xcl (f_Planner_count O f x1 M) fun x2 M1 =>
    if yw x2 ≤ yw v2 then (
      (gR O M1 v0 12 6).bind fun x3 =>
      (pJ M1 x3 7 0 0).bind fun M2 =>
      some (v1, M2)
    ) else
    (gR O M1 v0 12 6).bind fun x4 =>
    (gR O M1 v0 12 0).bind fun x5 =>
    (isO O M1 x4 7).bind fun _ =>
    xcl (f_Planner_applyTo O f x4 x5 v2 M1) fun x6 M3 =>
    if yw x6 = yw 0 then (
      f_Calendarhall_applyPlan_40 O f n v0 v1 (v2 + 1) M3
    ) else
    f_Calendarhall_applyPlan_40 O f n v0 (v1 + 1) (v2 + 1) M3
set_option maxRecDepth 20000 in
theorem k_f_Calendarhall_applyPlan_40 (O : Nat → Option va_E) (f d : Nat) : ∀ (n : Nat) (v0 : Nat) (v1 : Int) (v2 : Int) (M : xM), xZ oJ O (d + 7) 216 40 [(0, .ref v0), (1, .int (yw v1)), (2, .int (yw v2))] [] M (f_Calendarhall_applyPlan_40 O f n v0 v1 v2 M) := by
  intro n
  induction n with
  | zero =>
    intro v0 v1 v2 M
    exact xZ.no
  | succ n ih =>
    intro v0 v1 v2 M
    unfold f_Calendarhall_applyPlan_40
    refine xZ.adv (me := xm216) hP_216 2 (pc' := 42) (lv' := [(0, .ref v0), (1, .int (yw v1)), (2, .int (yw v2))]) (st' := [.ref v0, .int (yw v2)]) rfl ?_
    refine xZ.k_gR (me := xm216) hP_216 rfl (fun x1 => ?_)
    refine xZ.callv (κ := oJ) (av := []) (rest := [.int (yw v2)]) (st' := fun x2 => [.int (yw x2), .int (yw v2)]) (k0 := x1) (me := xm216) hP_216 rfl (Or.inl rfl) ⟨rfl, by decide⟩ rfl rfl (Nat.le_of_ble_eq_true rfl) (by decide) hP_208 (Nat.le_of_ble_eq_true rfl) (fun _ => rfl) (k_f_Planner_count O f (d + 5) x1 M) (fun x2 M1 => ?_)
    refine xZ.jc_ge (me := xm216) hP_216 rfl (fun h1 => ?_) (fun h1 => ?_)
    · skip
      refine xZ.adv (me := xm216) hP_216 1 (pc' := 76) (lv' := [(0, .ref v0), (1, .int (yw v1)), (2, .int (yw v2))]) (st' := [.ref v0]) rfl ?_
      refine xZ.k_gR (me := xm216) hP_216 rfl (fun x3 => ?_)
      refine xZ.adv (me := xm216) hP_216 1 (pc' := 80) (lv' := [(0, .ref v0), (1, .int (yw v1)), (2, .int (yw v2))]) (st' := [.int (0 : Int32), .ref x3]) rfl ?_
      refine xZ.eqs (lv2 := [(0, .ref v0), (1, .int (yw v1)), (2, .int (yw v2))]) (st2 := [.int (yw 0), .ref x3]) rfl (by simp only [yl_lit, yL_lit, yw_add, yw_sub, yw_mul, yw_neg, yl_add, yl_sub, yl_mul, cj_and, cj_or, cj_xor, cj_shl, cj_shr, cj_ushr, cj_div, cj_i2c, cj_i2b, cj_dc, ck_and, ck_or, ck_xor, ck_shl, ck_shr, ck_ushr, ck_i2l, ck_l2i, ck_cmp]) ?_
      refine xZ.k_pJ (me := xm216) hP_216 rfl (fun M2 => ?_)
      refine xZ.adv (me := xm216) hP_216 1 (pc' := 84) (lv' := [(0, .ref v0), (1, .int (yw v1)), (2, .int (yw v2))]) (st' := [.int (yw v1)]) rfl ?_
      exact xZ.jreti (me := xm216) hP_216 rfl rfl
    · skip
      refine xZ.adv (me := xm216) hP_216 1 (pc' := 52) (lv' := [(0, .ref v0), (1, .int (yw v1)), (2, .int (yw v2))]) (st' := [.ref v0]) rfl ?_
      refine xZ.k_gR (me := xm216) hP_216 rfl (fun x4 => ?_)
      refine xZ.adv (me := xm216) hP_216 1 (pc' := 56) (lv' := [(0, .ref v0), (1, .int (yw v1)), (2, .int (yw v2))]) (st' := [.ref v0, .ref x4]) rfl ?_
      refine xZ.k_gR (me := xm216) hP_216 rfl (fun x5 => ?_)
      refine xZ.adv (me := xm216) hP_216 1 (pc' := 60) (lv' := [(0, .ref v0), (1, .int (yw v1)), (2, .int (yw v2))]) (st' := [.int (yw v2), .ref x5, .ref x4]) rfl ?_
      refine xZ.callv (κ := oJ) (av := [.ref x5, .int (yw v2)]) (rest := []) (st' := fun x6 => [.int (yw x6)]) (k0 := x4) (me := xm216) hP_216 rfl (Or.inl rfl) ⟨rfl, by decide⟩ rfl rfl (Nat.le_of_ble_eq_true rfl) (by decide) hP_219 (Nat.le_of_ble_eq_true rfl) (fun _ => rfl) (k_f_Planner_applyTo O f (d + 1) x4 x5 v2 M1) (fun x6 M3 => ?_)
      refine xZ.jf_eq (me := xm216) hP_216 rfl (fun h2 => ?_) (fun h2 => ?_)
      · skip
        refine xZ.adv (me := xm216) hP_216 2 (pc' := 40) (lv' := [(2, .int ((yw v2) + (1 : Int32))), (0, .ref v0), (1, .int (yw v1))]) (st' := []) rfl ?_
        refine xZ.eqs (lv2 := [(2, .int (yw (v2 + 1))), (0, .ref v0), (1, .int (yw v1))]) (st2 := []) (by simp only [yl_lit, yL_lit, yw_add, yw_sub, yw_mul, yw_neg, yl_add, yl_sub, yl_mul, cj_and, cj_or, cj_xor, cj_shl, cj_shr, cj_ushr, cj_div, cj_i2c, cj_i2b, cj_dc, ck_and, ck_or, ck_xor, ck_shl, ck_shr, ck_ushr, ck_i2l, ck_l2i, ck_cmp]) rfl ?_
        exact xZ.sub (xsc (.tail _ (.head _)) (xsc (.tail _ (.tail _ (.head _))) (xsc (.head _) xsn))) (show ([2, 0, 1] : List Nat).Nodup from by decide) (ih v0 v1 (v2 + 1) M3)
      · skip
        refine xZ.adv (me := xm216) hP_216 3 (pc' := 40) (lv' := [(2, .int ((yw v2) + (1 : Int32))), (1, .int ((yw v1) + (1 : Int32))), (0, .ref v0)]) (st' := []) rfl ?_
        refine xZ.eqs (lv2 := [(2, .int (yw (v2 + 1))), (1, .int (yw (v1 + 1))), (0, .ref v0)]) (st2 := []) (by simp only [yl_lit, yL_lit, yw_add, yw_sub, yw_mul, yw_neg, yl_add, yl_sub, yl_mul, cj_and, cj_or, cj_xor, cj_shl, cj_shr, cj_ushr, cj_div, cj_i2c, cj_i2b, cj_dc, ck_and, ck_or, ck_xor, ck_shl, ck_shr, ck_ushr, ck_i2l, ck_l2i, ck_cmp]) rfl ?_
        exact xZ.sub (xsc (.tail _ (.tail _ (.head _))) (xsc (.tail _ (.head _)) (xsc (.head _) xsn))) (show ([2, 1, 0] : List Nat).Nodup from by decide) (ih v0 (v1 + 1) (v2 + 1) M3)
def f_Calendarhall_applyPlan (O : Nat → Option va_E) (f : Nat) (v0 : Nat) (M : xM) : Option (Int × xM) :=
  (gR O M v0 12 6).bind fun x1 =>
  (gJ O M x1 7 0).bind fun x2 =>
  if yw x2 = yw 0 then (
    none
  ) else
  (gR O M v0 12 6).bind fun x3 =>
  (gR O M v0 12 0).bind fun x4 =>
  (isO O M x3 7).bind fun _ =>
  xcl (f_Planner_canApply O f x3 x4 M) fun x5 M1 =>
  if yw x5 = yw 0 then (
    none
  ) else
  (isO O M1 v0 12).bind fun _ =>
  xcl (f_Calendarhall_saveForUndo O f v0 M1) fun _ M2 =>
  f_Calendarhall_applyPlan_40 O f f v0 0 0 M2
set_option maxRecDepth 20000 in
theorem k_f_Calendarhall_applyPlan (O : Nat → Option va_E) (f d : Nat) (v0 : Nat) (M : xM) : xZ oJ O (d + 7) 216 0 [(0, .ref v0)] [] M (f_Calendarhall_applyPlan O f v0 M) := by
  unfold f_Calendarhall_applyPlan
  refine xZ.adv (me := xm216) hP_216 1 (pc' := 1) (lv' := [(0, .ref v0)]) (st' := [.ref v0]) rfl ?_
  refine xZ.k_gR (me := xm216) hP_216 rfl (fun x1 => ?_)
  refine xZ.k_gJ (me := xm216) hP_216 rfl (fun x2 => ?_)
  refine xZ.jf_eq (me := xm216) hP_216 rfl (fun h1 => ?_) (fun h1 => ?_)
  · skip
    exact xZ.no
  · skip
    refine xZ.adv (me := xm216) hP_216 1 (pc' := 11) (lv' := [(0, .ref v0)]) (st' := [.ref v0]) rfl ?_
    refine xZ.k_gR (me := xm216) hP_216 rfl (fun x3 => ?_)
    refine xZ.adv (me := xm216) hP_216 1 (pc' := 15) (lv' := [(0, .ref v0)]) (st' := [.ref v0, .ref x3]) rfl ?_
    refine xZ.k_gR (me := xm216) hP_216 rfl (fun x4 => ?_)
    refine xZ.callv (κ := oJ) (av := [.ref x4]) (rest := []) (st' := fun x5 => [.int (yw x5)]) (k0 := x3) (me := xm216) hP_216 rfl (Or.inl rfl) ⟨rfl, by decide⟩ rfl rfl (Nat.le_of_ble_eq_true rfl) (by decide) hP_217 (Nat.le_of_ble_eq_true rfl) (fun _ => rfl) (k_f_Planner_canApply O f (d + 0) x3 x4 M) (fun x5 M1 => ?_)
    refine xZ.jf_ne (me := xm216) hP_216 rfl (fun h2 => ?_) (fun h2 => ?_)
    · skip
      exact xZ.no
    · skip
      refine xZ.adv (me := xm216) hP_216 1 (pc' := 33) (lv' := [(0, .ref v0)]) (st' := [.ref v0]) rfl ?_
      refine xZ.callv (κ := oU) (av := []) (rest := []) (st' := fun _ => []) (k0 := v0) (me := xm216) hP_216 rfl (Or.inl rfl) ⟨rfl, by decide⟩ rfl rfl (Nat.le_of_ble_eq_true rfl) (by decide) hP_23 (Nat.le_of_ble_eq_true rfl) (fun _ => rfl) (k_f_Calendarhall_saveForUndo O f (d + 2) v0 M1) (fun _ M2 => ?_)
      refine xZ.adv (me := xm216) hP_216 4 (pc' := 40) (lv' := [(2, .int (0 : Int32)), (1, .int (0 : Int32)), (0, .ref v0)]) (st' := []) rfl ?_
      refine xZ.eqs (lv2 := [(2, .int (yw 0)), (1, .int (yw 0)), (0, .ref v0)]) (st2 := []) (by simp only [yl_lit, yL_lit, yw_add, yw_sub, yw_mul, yw_neg, yl_add, yl_sub, yl_mul, cj_and, cj_or, cj_xor, cj_shl, cj_shr, cj_ushr, cj_div, cj_i2c, cj_i2b, cj_dc, ck_and, ck_or, ck_xor, ck_shl, ck_shr, ck_ushr, ck_i2l, ck_l2i, ck_cmp]) rfl ?_
      exact xZ.sub (xsc (.tail _ (.tail _ (.head _))) (xsc (.tail _ (.head _)) (xsc (.head _) xsn))) (show ([2, 1, 0] : List Nat).Nodup from by decide) (k_f_Calendarhall_applyPlan_40 O f d f v0 0 0 M2)
def f_Integer_numberOfTrailingZeros_74 (O : Nat → Option va_E) (f : Nat) (v0 : Int) (v1 : Int) (M : xM) : Option (Int × xM) :=
  some ((v1 + (jushr v0 1)), M)
set_option maxRecDepth 20000 in
theorem k_f_Integer_numberOfTrailingZeros_74 (O : Nat → Option va_E) (f d : Nat) (v0 : Int) (v1 : Int) (M : xM) : xZ oJ O (d + 0) 253 74 [(0, .int (yw v0)), (1, .int (yw v1))] [] M (f_Integer_numberOfTrailingZeros_74 O f v0 v1 M) := by
  unfold f_Integer_numberOfTrailingZeros_74
  refine xZ.adv (me := xm253) hP_253 5 (pc' := 79) (lv' := [(0, .int (yw v0)), (1, .int (yw v1))]) (st' := [.int ((yw v1) + (Int32.toUInt32 (yw v0) >>> (Int32.toUInt32 (1 : Int32) &&& Int32.toUInt32 31)).toInt32)]) rfl ?_
  refine xZ.eqs (lv2 := [(0, .int (yw v0)), (1, .int (yw v1))]) (st2 := [.int (yw (v1 + (jushr v0 1)))]) rfl (by simp only [yl_lit, yL_lit, yw_add, yw_sub, yw_mul, yw_neg, yl_add, yl_sub, yl_mul, cj_and, cj_or, cj_xor, cj_shl, cj_shr, cj_ushr, cj_div, cj_i2c, cj_i2b, cj_dc, ck_and, ck_or, ck_xor, ck_shl, ck_shr, ck_ushr, ck_i2l, ck_l2i, ck_cmp]) ?_
  exact xZ.jreti (me := xm253) hP_253 rfl rfl
def f_Integer_numberOfTrailingZeros_62 (O : Nat → Option va_E) (f : Nat) (v0 : Int) (v1 : Int) (M : xM) : Option (Int × xM) :=
  if yw v0 ≤ yw 4 then (
    f_Integer_numberOfTrailingZeros_74 O f v0 v1 M
  ) else
  f_Integer_numberOfTrailingZeros_74 O f (jushr v0 2) (v1 + 2) M
set_option maxRecDepth 20000 in
theorem k_f_Integer_numberOfTrailingZeros_62 (O : Nat → Option va_E) (f d : Nat) (v0 : Int) (v1 : Int) (M : xM) : xZ oJ O (d + 0) 253 62 [(0, .int (yw v0)), (1, .int (yw v1))] [] M (f_Integer_numberOfTrailingZeros_62 O f v0 v1 M) := by
  unfold f_Integer_numberOfTrailingZeros_62
  refine xZ.adv (me := xm253) hP_253 2 (pc' := 64) (lv' := [(0, .int (yw v0)), (1, .int (yw v1))]) (st' := [.int (4 : Int32), .int (yw v0)]) rfl ?_
  refine xZ.eqs (lv2 := [(0, .int (yw v0)), (1, .int (yw v1))]) (st2 := [.int (yw 4), .int (yw v0)]) rfl (by simp only [yl_lit, yL_lit, yw_add, yw_sub, yw_mul, yw_neg, yl_add, yl_sub, yl_mul, cj_and, cj_or, cj_xor, cj_shl, cj_shr, cj_ushr, cj_div, cj_i2c, cj_i2b, cj_dc, ck_and, ck_or, ck_xor, ck_shl, ck_shr, ck_ushr, ck_i2l, ck_l2i, ck_cmp]) ?_
  refine xZ.jc_le (me := xm253) hP_253 rfl (fun h1 => ?_) (fun h1 => ?_)
  · skip
    exact (k_f_Integer_numberOfTrailingZeros_74 O f d v0 v1 M)
  · skip
    refine xZ.adv (me := xm253) hP_253 5 (pc' := 74) (lv' := [(0, .int ((Int32.toUInt32 (yw v0) >>> (Int32.toUInt32 (2 : Int32) &&& Int32.toUInt32 31)).toInt32)), (1, .int ((yw v1) + (2 : Int32)))]) (st' := []) rfl ?_
    refine xZ.eqs (lv2 := [(0, .int (yw (jushr v0 2))), (1, .int (yw (v1 + 2)))]) (st2 := []) (by simp only [yl_lit, yL_lit, yw_add, yw_sub, yw_mul, yw_neg, yl_add, yl_sub, yl_mul, cj_and, cj_or, cj_xor, cj_shl, cj_shr, cj_ushr, cj_div, cj_i2c, cj_i2b, cj_dc, ck_and, ck_or, ck_xor, ck_shl, ck_shr, ck_ushr, ck_i2l, ck_l2i, ck_cmp]) rfl ?_
    exact (k_f_Integer_numberOfTrailingZeros_74 O f d (jushr v0 2) (v1 + 2) M)
def f_Integer_numberOfTrailingZeros_49 (O : Nat → Option va_E) (f : Nat) (v0 : Int) (v1 : Int) (M : xM) : Option (Int × xM) :=
  if yw v0 ≤ yw 16 then (
    f_Integer_numberOfTrailingZeros_62 O f v0 v1 M
  ) else
  f_Integer_numberOfTrailingZeros_62 O f (jushr v0 4) (v1 + 4) M
set_option maxRecDepth 20000 in
theorem k_f_Integer_numberOfTrailingZeros_49 (O : Nat → Option va_E) (f d : Nat) (v0 : Int) (v1 : Int) (M : xM) : xZ oJ O (d + 0) 253 49 [(0, .int (yw v0)), (1, .int (yw v1))] [] M (f_Integer_numberOfTrailingZeros_49 O f v0 v1 M) := by
  unfold f_Integer_numberOfTrailingZeros_49
  refine xZ.adv (me := xm253) hP_253 2 (pc' := 52) (lv' := [(0, .int (yw v0)), (1, .int (yw v1))]) (st' := [.int (16 : Int32), .int (yw v0)]) rfl ?_
  refine xZ.eqs (lv2 := [(0, .int (yw v0)), (1, .int (yw v1))]) (st2 := [.int (yw 16), .int (yw v0)]) rfl (by simp only [yl_lit, yL_lit, yw_add, yw_sub, yw_mul, yw_neg, yl_add, yl_sub, yl_mul, cj_and, cj_or, cj_xor, cj_shl, cj_shr, cj_ushr, cj_div, cj_i2c, cj_i2b, cj_dc, ck_and, ck_or, ck_xor, ck_shl, ck_shr, ck_ushr, ck_i2l, ck_l2i, ck_cmp]) ?_
  refine xZ.jc_le (me := xm253) hP_253 rfl (fun h1 => ?_) (fun h1 => ?_)
  · skip
    exact (k_f_Integer_numberOfTrailingZeros_62 O f d v0 v1 M)
  · skip
    refine xZ.adv (me := xm253) hP_253 5 (pc' := 62) (lv' := [(0, .int ((Int32.toUInt32 (yw v0) >>> (Int32.toUInt32 (4 : Int32) &&& Int32.toUInt32 31)).toInt32)), (1, .int ((yw v1) + (4 : Int32)))]) (st' := []) rfl ?_
    refine xZ.eqs (lv2 := [(0, .int (yw (jushr v0 4))), (1, .int (yw (v1 + 4)))]) (st2 := []) (by simp only [yl_lit, yL_lit, yw_add, yw_sub, yw_mul, yw_neg, yl_add, yl_sub, yl_mul, cj_and, cj_or, cj_xor, cj_shl, cj_shr, cj_ushr, cj_div, cj_i2c, cj_i2b, cj_dc, ck_and, ck_or, ck_xor, ck_shl, ck_shr, ck_ushr, ck_i2l, ck_l2i, ck_cmp]) rfl ?_
    exact (k_f_Integer_numberOfTrailingZeros_62 O f d (jushr v0 4) (v1 + 4) M)
def f_Integer_numberOfTrailingZeros_34 (O : Nat → Option va_E) (f : Nat) (v0 : Int) (v1 : Int) (M : xM) : Option (Int × xM) :=
  if yw v0 ≤ yw 256 then (
    f_Integer_numberOfTrailingZeros_49 O f v0 v1 M
  ) else
  f_Integer_numberOfTrailingZeros_49 O f (jushr v0 8) (v1 + 8) M
set_option maxRecDepth 20000 in
theorem k_f_Integer_numberOfTrailingZeros_34 (O : Nat → Option va_E) (f d : Nat) (v0 : Int) (v1 : Int) (M : xM) : xZ oJ O (d + 0) 253 34 [(0, .int (yw v0)), (1, .int (yw v1))] [] M (f_Integer_numberOfTrailingZeros_34 O f v0 v1 M) := by
  unfold f_Integer_numberOfTrailingZeros_34
  refine xZ.adv (me := xm253) hP_253 2 (pc' := 38) (lv' := [(0, .int (yw v0)), (1, .int (yw v1))]) (st' := [.int (256 : Int32), .int (yw v0)]) rfl ?_
  refine xZ.eqs (lv2 := [(0, .int (yw v0)), (1, .int (yw v1))]) (st2 := [.int (yw 256), .int (yw v0)]) rfl (by simp only [yl_lit, yL_lit, yw_add, yw_sub, yw_mul, yw_neg, yl_add, yl_sub, yl_mul, cj_and, cj_or, cj_xor, cj_shl, cj_shr, cj_ushr, cj_div, cj_i2c, cj_i2b, cj_dc, ck_and, ck_or, ck_xor, ck_shl, ck_shr, ck_ushr, ck_i2l, ck_l2i, ck_cmp]) ?_
  refine xZ.jc_le (me := xm253) hP_253 rfl (fun h1 => ?_) (fun h1 => ?_)
  · skip
    exact (k_f_Integer_numberOfTrailingZeros_49 O f d v0 v1 M)
  · skip
    refine xZ.adv (me := xm253) hP_253 5 (pc' := 49) (lv' := [(0, .int ((Int32.toUInt32 (yw v0) >>> (Int32.toUInt32 (8 : Int32) &&& Int32.toUInt32 31)).toInt32)), (1, .int ((yw v1) + (8 : Int32)))]) (st' := []) rfl ?_
    refine xZ.eqs (lv2 := [(0, .int (yw (jushr v0 8))), (1, .int (yw (v1 + 8)))]) (st2 := []) (by simp only [yl_lit, yL_lit, yw_add, yw_sub, yw_mul, yw_neg, yl_add, yl_sub, yl_mul, cj_and, cj_or, cj_xor, cj_shl, cj_shr, cj_ushr, cj_div, cj_i2c, cj_i2b, cj_dc, ck_and, ck_or, ck_xor, ck_shl, ck_shr, ck_ushr, ck_i2l, ck_l2i, ck_cmp]) rfl ?_
    exact (k_f_Integer_numberOfTrailingZeros_49 O f d (jushr v0 8) (v1 + 8) M)
def f_Integer_numberOfTrailingZeros (O : Nat → Option va_E) (f : Nat) (v0 : Int) (M : xM) : Option (Int × xM) :=
  xlet (jand (jxor v0 (-1)) (v0 - 1)) fun x1 =>
  if yw 0 < yw x1 then (
    if yw x1 ≤ yw 65536 then (
      f_Integer_numberOfTrailingZeros_34 O f x1 1 M
    ) else
    f_Integer_numberOfTrailingZeros_34 O f (jushr x1 16) (1 + 16) M
  ) else
  some ((jand x1 32), M)
set_option maxRecDepth 20000 in
theorem k_f_Integer_numberOfTrailingZeros (O : Nat → Option va_E) (f d : Nat) (v0 : Int) (M : xM) : xZ oJ O (d + 0) 253 0 [(0, .int (yw v0))] [] M (f_Integer_numberOfTrailingZeros O f v0 M) := by
  unfold f_Integer_numberOfTrailingZeros
  refine xZ.adv (me := xm253) hP_253 8 (pc' := 8) (lv' := [(0, .int (((yw v0) ^^^ (-1 : Int32)) &&& ((yw v0) - (1 : Int32))))]) (st' := []) rfl ?_
  refine xZ.eqs (lv2 := [(0, .int (yw (jand (jxor v0 (-1)) (v0 - 1))))]) (st2 := []) (by simp only [yl_lit, yL_lit, yw_add, yw_sub, yw_mul, yw_neg, yl_add, yl_sub, yl_mul, cj_and, cj_or, cj_xor, cj_shl, cj_shr, cj_ushr, cj_div, cj_i2c, cj_i2b, cj_dc, ck_and, ck_or, ck_xor, ck_shl, ck_shr, ck_ushr, ck_i2l, ck_l2i, ck_cmp]) rfl ?_
  refine xZ.letI (v := (jand (jxor v0 (-1)) (v0 - 1))) (lvf := fun x1 => [(0, .int (yw x1))]) (stf := fun x1 => []) ?_
  intro x1
  refine xZ.adv (me := xm253) hP_253 1 (pc' := 9) (lv' := [(0, .int (yw x1))]) (st' := [.int (yw x1)]) rfl ?_
  refine xZ.jf_gt (me := xm253) hP_253 rfl (fun h1 => ?_) (fun h1 => ?_)
  · skip
    refine xZ.adv (me := xm253) hP_253 4 (pc' := 23) (lv' := [(1, .int (1 : Int32)), (0, .int (yw x1))]) (st' := [.int (65536 : Int32), .int (yw x1)]) rfl ?_
    refine xZ.eqs (lv2 := [(1, .int (yw 1)), (0, .int (yw x1))]) (st2 := [.int (yw 65536), .int (yw x1)]) (by simp only [yl_lit, yL_lit, yw_add, yw_sub, yw_mul, yw_neg, yl_add, yl_sub, yl_mul, cj_and, cj_or, cj_xor, cj_shl, cj_shr, cj_ushr, cj_div, cj_i2c, cj_i2b, cj_dc, ck_and, ck_or, ck_xor, ck_shl, ck_shr, ck_ushr, ck_i2l, ck_l2i, ck_cmp]) (by simp only [yl_lit, yL_lit, yw_add, yw_sub, yw_mul, yw_neg, yl_add, yl_sub, yl_mul, cj_and, cj_or, cj_xor, cj_shl, cj_shr, cj_ushr, cj_div, cj_i2c, cj_i2b, cj_dc, ck_and, ck_or, ck_xor, ck_shl, ck_shr, ck_ushr, ck_i2l, ck_l2i, ck_cmp]) ?_
    refine xZ.jc_le (me := xm253) hP_253 rfl (fun h2 => ?_) (fun h2 => ?_)
    · skip
      exact xZ.sub (xsc (.tail _ (.head _)) (xsc (.head _) xsn)) (show ([1, 0] : List Nat).Nodup from by decide) (k_f_Integer_numberOfTrailingZeros_34 O f d x1 1 M)
    · skip
      refine xZ.adv (me := xm253) hP_253 5 (pc' := 34) (lv' := [(0, .int ((Int32.toUInt32 (yw x1) >>> (Int32.toUInt32 (16 : Int32) &&& Int32.toUInt32 31)).toInt32)), (1, .int ((yw 1) + (16 : Int32)))]) (st' := []) rfl ?_
      refine xZ.eqs (lv2 := [(0, .int (yw (jushr x1 16))), (1, .int (yw (1 + 16)))]) (st2 := []) (by simp only [yl_lit, yL_lit, yw_add, yw_sub, yw_mul, yw_neg, yl_add, yl_sub, yl_mul, cj_and, cj_or, cj_xor, cj_shl, cj_shr, cj_ushr, cj_div, cj_i2c, cj_i2b, cj_dc, ck_and, ck_or, ck_xor, ck_shl, ck_shr, ck_ushr, ck_i2l, ck_l2i, ck_cmp]) rfl ?_
      exact (k_f_Integer_numberOfTrailingZeros_34 O f d (jushr x1 16) (1 + 16) M)
  · skip
    refine xZ.adv (me := xm253) hP_253 3 (pc' := 16) (lv' := [(0, .int (yw x1))]) (st' := [.int ((yw x1) &&& (32 : Int32))]) rfl ?_
    refine xZ.eqs (lv2 := [(0, .int (yw x1))]) (st2 := [.int (yw (jand x1 32))]) rfl (by simp only [yl_lit, yL_lit, yw_add, yw_sub, yw_mul, yw_neg, yl_add, yl_sub, yl_mul, cj_and, cj_or, cj_xor, cj_shl, cj_shr, cj_ushr, cj_div, cj_i2c, cj_i2b, cj_dc, ck_and, ck_or, ck_xor, ck_shl, ck_shr, ck_ushr, ck_i2l, ck_l2i, ck_cmp]) ?_
    exact xZ.jreti (me := xm253) hP_253 rfl rfl
def f_Law_isPlanned_496 (O : Nat → Option va_E) (f : Nat) (K451 : Nat → Nat → Int → Nat → Int → xM → Option (Int × xM)) (v0 : Nat) (v6 : Nat) (v11 : Nat) (v12 : Int) (s0 : Int) (s1 : Int) (M : xM) : Option (Int × xM) :=
  K451 v0 v6 (s0 + s1) v11 (v12 + 1) M
set_option maxRecDepth 20000 in
theorem k_f_Law_isPlanned_496 (O : Nat → Option va_E) (f d : Nat) (K451 : Nat → Nat → Int → Nat → Int → xM → Option (Int × xM)) (hK451 : ∀ (v0 : Nat) (v6 : Nat) (v10 : Int) (v11 : Nat) (v12 : Int) M, xZ oJ O (d + 69) 203 451 [(0, .ref v0), (6, .ref v6), (10, .int (yw v10)), (11, .ref v11), (12, .int (yw v12))] [] M (K451 v0 v6 v10 v11 v12 M)) (v0 : Nat) (v6 : Nat) (v11 : Nat) (v12 : Int) (s0 : Int) (s1 : Int) (M : xM) : xZ oJ O (d + 69) 203 496 [(0, .ref v0), (6, .ref v6), (11, .ref v11), (12, .int (yw v12))] [.int (yw s1), .int (yw s0)] M (f_Law_isPlanned_496 O f K451 v0 v6 v11 v12 s0 s1 M) := by
  unfold f_Law_isPlanned_496
  refine xZ.adv (me := xm203) hP_203 4 (pc' := 451) (lv' := [(12, .int ((yw v12) + (1 : Int32))), (10, .int ((yw s0) + (yw s1))), (0, .ref v0), (6, .ref v6), (11, .ref v11)]) (st' := []) rfl ?_
  refine xZ.eqs (lv2 := [(12, .int (yw (v12 + 1))), (10, .int (yw (s0 + s1))), (0, .ref v0), (6, .ref v6), (11, .ref v11)]) (st2 := []) (by simp only [yl_lit, yL_lit, yw_add, yw_sub, yw_mul, yw_neg, yl_add, yl_sub, yl_mul, cj_and, cj_or, cj_xor, cj_shl, cj_shr, cj_ushr, cj_div, cj_i2c, cj_i2b, cj_dc, ck_and, ck_or, ck_xor, ck_shl, ck_shr, ck_ushr, ck_i2l, ck_l2i, ck_cmp]) rfl ?_
  exact xZ.sub (xsc (.tail _ (.tail _ (.head _))) (xsc (.tail _ (.tail _ (.tail _ (.head _)))) (xsc (.tail _ (.head _)) (xsc (.tail _ (.tail _ (.tail _ (.tail _ (.head _))))) (xsc (.head _) xsn))))) (show ([12, 10, 0, 6, 11] : List Nat).Nodup from by decide) (hK451 v0 v6 (s0 + s1) v11 (v12 + 1) M)
def f_Law_isPlanned_519 (O : Nat → Option va_E) (f : Nat) : Nat → Nat → Nat → Nat → Int → xM → Option (Int × xM)
  | 0, _, _, _, _, _ => none
  | n + 1, v0, v6, v11, v12, M =>
    (gJ O M v6 13 4).bind fun x1 =>
    if yw x1 ≤ yw v12 then (
      some (1, M)
    ) else
    (gR O M v6 13 0).bind fun x2 =>
    (aJ O M x2 v12).bind fun x3 =>
    (gR O M v6 13 1).bind fun x4 =>
    (aJ O M x4 v12).bind fun x5 =>
    (isO O M v0 12).bind fun _ =>
    xcl (f_Calendarhall_begin O f v0 x3 x5 M) fun x6 M1 =>
    (aJ O M1 v11 v12).bind fun x7 =>
    if yw x6 = yw x7 then (
      f_Law_isPlanned_519 O f n v0 v6 v11 (v12 + 1) M1
    ) else
    some (0, M1)
set_option maxRecDepth 20000 in
theorem k_f_Law_isPlanned_519 (O : Nat → Option va_E) (f d : Nat) : ∀ (n : Nat) (v0 : Nat) (v6 : Nat) (v11 : Nat) (v12 : Int) (M : xM), xZ oJ O (d + 69) 203 519 [(0, .ref v0), (6, .ref v6), (11, .ref v11), (12, .int (yw v12))] [] M (f_Law_isPlanned_519 O f n v0 v6 v11 v12 M) := by
  intro n
  induction n with
  | zero =>
    intro v0 v6 v11 v12 M
    exact xZ.no
  | succ n ih =>
    intro v0 v6 v11 v12 M
    unfold f_Law_isPlanned_519
    refine xZ.adv (me := xm203) hP_203 2 (pc' := 523) (lv' := [(0, .ref v0), (6, .ref v6), (11, .ref v11), (12, .int (yw v12))]) (st' := [.ref v6, .int (yw v12)]) rfl ?_
    refine xZ.k_gJ (me := xm203) hP_203 rfl (fun x1 => ?_)
    refine xZ.jc_ge (me := xm203) hP_203 rfl (fun h1 => ?_) (fun h1 => ?_)
    · skip
      refine xZ.adv (me := xm203) hP_203 1 (pc' := 566) (lv' := [(0, .ref v0), (6, .ref v6), (11, .ref v11), (12, .int (yw v12))]) (st' := [.int (1 : Int32)]) rfl ?_
      refine xZ.eqs (lv2 := [(0, .ref v0), (6, .ref v6), (11, .ref v11), (12, .int (yw v12))]) (st2 := [.int (yw 1)]) rfl (by simp only [yl_lit, yL_lit, yw_add, yw_sub, yw_mul, yw_neg, yl_add, yl_sub, yl_mul, cj_and, cj_or, cj_xor, cj_shl, cj_shr, cj_ushr, cj_div, cj_i2c, cj_i2b, cj_dc, ck_and, ck_or, ck_xor, ck_shl, ck_shr, ck_ushr, ck_i2l, ck_l2i, ck_cmp]) ?_
      exact xZ.jrete (me := xm203) hP_203 rfl rfl rfl
    · skip
      refine xZ.adv (me := xm203) hP_203 2 (pc' := 532) (lv' := [(0, .ref v0), (6, .ref v6), (11, .ref v11), (12, .int (yw v12))]) (st' := [.ref v6, .ref v0]) rfl ?_
      refine xZ.k_gR (me := xm203) hP_203 rfl (fun x2 => ?_)
      refine xZ.adv (me := xm203) hP_203 1 (pc' := 537) (lv' := [(0, .ref v0), (6, .ref v6), (11, .ref v11), (12, .int (yw v12))]) (st' := [.int (yw v12), .ref x2, .ref v0]) rfl ?_
      refine xZ.k_aJ (me := xm203) hP_203 rfl (fun x3 => ?_)
      refine xZ.adv (me := xm203) hP_203 1 (pc' := 540) (lv' := [(0, .ref v0), (6, .ref v6), (11, .ref v11), (12, .int (yw v12))]) (st' := [.ref v6, .int (yw x3), .ref v0]) rfl ?_
      refine xZ.k_gR (me := xm203) hP_203 rfl (fun x4 => ?_)
      refine xZ.adv (me := xm203) hP_203 1 (pc' := 545) (lv' := [(0, .ref v0), (6, .ref v6), (11, .ref v11), (12, .int (yw v12))]) (st' := [.int (yw v12), .ref x4, .int (yw x3), .ref v0]) rfl ?_
      refine xZ.k_aJ (me := xm203) hP_203 rfl (fun x5 => ?_)
      refine xZ.callv (κ := oJ) (av := [.int (yw x3), .int (yw x5)]) (rest := []) (st' := fun x6 => [.int (yw x6)]) (k0 := v0) (me := xm203) hP_203 rfl (Or.inl rfl) ⟨rfl, by decide⟩ rfl rfl (Nat.le_of_ble_eq_true rfl) (by decide) hP_98 (Nat.le_of_ble_eq_true rfl) (fun _ => rfl) (k_f_Calendarhall_begin O f (d + 63) v0 x3 x5 M) (fun x6 M1 => ?_)
      refine xZ.adv (me := xm203) hP_203 2 (pc' := 553) (lv' := [(0, .ref v0), (6, .ref v6), (11, .ref v11), (12, .int (yw v12))]) (st' := [.int (yw v12), .ref v11, .int (yw x6)]) rfl ?_
      refine xZ.k_aJ (me := xm203) hP_203 rfl (fun x7 => ?_)
      refine xZ.jc_eq (me := xm203) hP_203 rfl (fun h2 => ?_) (fun h2 => ?_)
      · skip
        refine xZ.adv (me := xm203) hP_203 2 (pc' := 519) (lv' := [(12, .int ((yw v12) + (1 : Int32))), (0, .ref v0), (6, .ref v6), (11, .ref v11)]) (st' := []) rfl ?_
        refine xZ.eqs (lv2 := [(12, .int (yw (v12 + 1))), (0, .ref v0), (6, .ref v6), (11, .ref v11)]) (st2 := []) (by simp only [yl_lit, yL_lit, yw_add, yw_sub, yw_mul, yw_neg, yl_add, yl_sub, yl_mul, cj_and, cj_or, cj_xor, cj_shl, cj_shr, cj_ushr, cj_div, cj_i2c, cj_i2b, cj_dc, ck_and, ck_or, ck_xor, ck_shl, ck_shr, ck_ushr, ck_i2l, ck_l2i, ck_cmp]) rfl ?_
        exact xZ.sub (xsc (.tail _ (.head _)) (xsc (.tail _ (.tail _ (.head _))) (xsc (.tail _ (.tail _ (.tail _ (.head _)))) (xsc (.head _) xsn)))) (show ([12, 0, 6, 11] : List Nat).Nodup from by decide) (ih v0 v6 v11 (v12 + 1) M1)
      · skip
        refine xZ.adv (me := xm203) hP_203 1 (pc' := 558) (lv' := [(0, .ref v0), (6, .ref v6), (11, .ref v11), (12, .int (yw v12))]) (st' := [.int (0 : Int32)]) rfl ?_
        refine xZ.eqs (lv2 := [(0, .ref v0), (6, .ref v6), (11, .ref v11), (12, .int (yw v12))]) (st2 := [.int (yw 0)]) rfl (by simp only [yl_lit, yL_lit, yw_add, yw_sub, yw_mul, yw_neg, yl_add, yl_sub, yl_mul, cj_and, cj_or, cj_xor, cj_shl, cj_shr, cj_ushr, cj_div, cj_i2c, cj_i2b, cj_dc, ck_and, ck_or, ck_xor, ck_shl, ck_shr, ck_ushr, ck_i2l, ck_l2i, ck_cmp]) ?_
        exact xZ.jrete (me := xm203) hP_203 rfl rfl rfl
def f_Law_isPlanned_451 (O : Nat → Option va_E) (f : Nat) : Nat → Nat → Nat → Int → Nat → Int → xM → Option (Int × xM)
  | 0, _, _, _, _, _, _ => none
  | n + 1, v0, v6, v10, v11, v12, M =>
    (gJ O M v6 13 4).bind fun x1 =>
    if yw x1 ≤ yw v12 then (
      (isO O M v0 12).bind fun _ =>
      xcl (f_Calendarhall_applyPlan O f v0 M) fun x2 M1 =>
      if yw x2 = yw v10 then (
        f_Law_isPlanned_519 O f f v0 v6 v11 0 M1
      ) else
      some (0, M1)
    ) else
    (isO O M v0 12).bind fun _ =>
    xcl (f_Calendarhall_planAt O f v0 v12 2 M) fun x3 M2 =>
    (wJ M2 v11 v12 x3).bind fun M3 =>
    (aJ O M3 v11 v12).bind fun x4 =>
    (gR O M3 v6 13 2).bind fun x5 =>
    (aJ O M3 x5 v12).bind fun x6 =>
    if yw x4 = yw x6 then (
      f_Law_isPlanned_496 O f (f_Law_isPlanned_451 O f n) v0 v6 v11 v12 v10 0 M3
    ) else
    f_Law_isPlanned_496 O f (f_Law_isPlanned_451 O f n) v0 v6 v11 v12 v10 1 M3
set_option maxRecDepth 20000 in
theorem k_f_Law_isPlanned_451 (O : Nat → Option va_E) (f d : Nat) : ∀ (n : Nat) (v0 : Nat) (v6 : Nat) (v10 : Int) (v11 : Nat) (v12 : Int) (M : xM), xZ oJ O (d + 69) 203 451 [(0, .ref v0), (6, .ref v6), (10, .int (yw v10)), (11, .ref v11), (12, .int (yw v12))] [] M (f_Law_isPlanned_451 O f n v0 v6 v10 v11 v12 M) := by
  intro n
  induction n with
  | zero =>
    intro v0 v6 v10 v11 v12 M
    exact xZ.no
  | succ n ih =>
    intro v0 v6 v10 v11 v12 M
    unfold f_Law_isPlanned_451
    refine xZ.adv (me := xm203) hP_203 2 (pc' := 455) (lv' := [(0, .ref v0), (6, .ref v6), (10, .int (yw v10)), (11, .ref v11), (12, .int (yw v12))]) (st' := [.ref v6, .int (yw v12)]) rfl ?_
    refine xZ.k_gJ (me := xm203) hP_203 rfl (fun x1 => ?_)
    refine xZ.jc_ge (me := xm203) hP_203 rfl (fun h1 => ?_) (fun h1 => ?_)
    · skip
      refine xZ.adv (me := xm203) hP_203 1 (pc' := 506) (lv' := [(0, .ref v0), (6, .ref v6), (10, .int (yw v10)), (11, .ref v11), (12, .int (yw v12))]) (st' := [.ref v0]) rfl ?_
      refine xZ.callv (κ := oJ) (av := []) (rest := []) (st' := fun x2 => [.int (yw x2)]) (k0 := v0) (me := xm203) hP_203 rfl (Or.inl rfl) ⟨rfl, by decide⟩ rfl rfl (Nat.le_of_ble_eq_true rfl) (by decide) hP_216 (Nat.le_of_ble_eq_true rfl) (fun _ => rfl) (k_f_Calendarhall_applyPlan O f (d + 61) v0 M) (fun x2 M1 => ?_)
      refine xZ.adv (me := xm203) hP_203 1 (pc' := 511) (lv' := [(0, .ref v0), (6, .ref v6), (10, .int (yw v10)), (11, .ref v11), (12, .int (yw v12))]) (st' := [.int (yw v10), .int (yw x2)]) rfl ?_
      refine xZ.jc_eq (me := xm203) hP_203 rfl (fun h2 => ?_) (fun h2 => ?_)
      · skip
        refine xZ.adv (me := xm203) hP_203 2 (pc' := 519) (lv' := [(12, .int (0 : Int32)), (0, .ref v0), (6, .ref v6), (10, .int (yw v10)), (11, .ref v11)]) (st' := []) rfl ?_
        refine xZ.eqs (lv2 := [(12, .int (yw 0)), (0, .ref v0), (6, .ref v6), (10, .int (yw v10)), (11, .ref v11)]) (st2 := []) (by simp only [yl_lit, yL_lit, yw_add, yw_sub, yw_mul, yw_neg, yl_add, yl_sub, yl_mul, cj_and, cj_or, cj_xor, cj_shl, cj_shr, cj_ushr, cj_div, cj_i2c, cj_i2b, cj_dc, ck_and, ck_or, ck_xor, ck_shl, ck_shr, ck_ushr, ck_i2l, ck_l2i, ck_cmp]) rfl ?_
        exact xZ.sub (xsc (.tail _ (.head _)) (xsc (.tail _ (.tail _ (.head _))) (xsc (.tail _ (.tail _ (.tail _ (.tail _ (.head _))))) (xsc (.head _) xsn)))) (show ([12, 0, 6, 10, 11] : List Nat).Nodup from by decide) (k_f_Law_isPlanned_519 O f d f v0 v6 v11 0 M1)
      · skip
        refine xZ.adv (me := xm203) hP_203 1 (pc' := 515) (lv' := [(0, .ref v0), (6, .ref v6), (10, .int (yw v10)), (11, .ref v11), (12, .int (yw v12))]) (st' := [.int (0 : Int32)]) rfl ?_
        refine xZ.eqs (lv2 := [(0, .ref v0), (6, .ref v6), (10, .int (yw v10)), (11, .ref v11), (12, .int (yw v12))]) (st2 := [.int (yw 0)]) rfl (by simp only [yl_lit, yL_lit, yw_add, yw_sub, yw_mul, yw_neg, yl_add, yl_sub, yl_mul, cj_and, cj_or, cj_xor, cj_shl, cj_shr, cj_ushr, cj_div, cj_i2c, cj_i2b, cj_dc, ck_and, ck_or, ck_xor, ck_shl, ck_shr, ck_ushr, ck_i2l, ck_l2i, ck_cmp]) ?_
        exact xZ.jrete (me := xm203) hP_203 rfl rfl rfl
    · skip
      refine xZ.adv (me := xm203) hP_203 5 (pc' := 469) (lv' := [(0, .ref v0), (6, .ref v6), (10, .int (yw v10)), (11, .ref v11), (12, .int (yw v12))]) (st' := [.int (2 : Int32), .int (yw v12), .ref v0, .int (yw v12), .ref v11]) rfl ?_
      refine xZ.eqs (lv2 := [(0, .ref v0), (6, .ref v6), (10, .int (yw v10)), (11, .ref v11), (12, .int (yw v12))]) (st2 := [.int (yw 2), .int (yw v12), .ref v0, .int (yw v12), .ref v11]) rfl (by simp only [yl_lit, yL_lit, yw_add, yw_sub, yw_mul, yw_neg, yl_add, yl_sub, yl_mul, cj_and, cj_or, cj_xor, cj_shl, cj_shr, cj_ushr, cj_div, cj_i2c, cj_i2b, cj_dc, ck_and, ck_or, ck_xor, ck_shl, ck_shr, ck_ushr, ck_i2l, ck_l2i, ck_cmp]) ?_
      refine xZ.callv (κ := oJ) (av := [.int (yw v12), .int (yw 2)]) (rest := [.int (yw v12), .ref v11]) (st' := fun x3 => [.int (yw x3), .int (yw v12), .ref v11]) (k0 := v0) (me := xm203) hP_203 rfl (Or.inl rfl) ⟨rfl, by decide⟩ rfl rfl (Nat.le_of_ble_eq_true rfl) (by decide) hP_212 (Nat.le_of_ble_eq_true rfl) (fun _ => rfl) (k_f_Calendarhall_planAt O f (d + 66) v0 v12 2 M) (fun x3 M2 => ?_)
      refine xZ.k_wJ (me := xm203) hP_203 rfl (fun M3 => ?_)
      refine xZ.adv (me := xm203) hP_203 3 (pc' := 479) (lv' := [(0, .ref v0), (6, .ref v6), (10, .int (yw v10)), (11, .ref v11), (12, .int (yw v12))]) (st' := [.int (yw v12), .ref v11, .int (yw v10)]) rfl ?_
      refine xZ.k_aJ (me := xm203) hP_203 rfl (fun x4 => ?_)
      refine xZ.adv (me := xm203) hP_203 1 (pc' := 482) (lv' := [(0, .ref v0), (6, .ref v6), (10, .int (yw v10)), (11, .ref v11), (12, .int (yw v12))]) (st' := [.ref v6, .int (yw x4), .int (yw v10)]) rfl ?_
      refine xZ.k_gR (me := xm203) hP_203 rfl (fun x5 => ?_)
      refine xZ.adv (me := xm203) hP_203 1 (pc' := 487) (lv' := [(0, .ref v0), (6, .ref v6), (10, .int (yw v10)), (11, .ref v11), (12, .int (yw v12))]) (st' := [.int (yw v12), .ref x5, .int (yw x4), .int (yw v10)]) rfl ?_
      refine xZ.k_aJ (me := xm203) hP_203 rfl (fun x6 => ?_)
      refine xZ.jc_ne (me := xm203) hP_203 rfl (fun h3 => ?_) (fun h3 => ?_)
      · skip
        refine xZ.adv (me := xm203) hP_203 2 (pc' := 496) (lv' := [(0, .ref v0), (6, .ref v6), (10, .int (yw v10)), (11, .ref v11), (12, .int (yw v12))]) (st' := [.int (0 : Int32), .int (yw v10)]) rfl ?_
        refine xZ.eqs (lv2 := [(0, .ref v0), (6, .ref v6), (10, .int (yw v10)), (11, .ref v11), (12, .int (yw v12))]) (st2 := [.int (yw 0), .int (yw v10)]) rfl (by simp only [yl_lit, yL_lit, yw_add, yw_sub, yw_mul, yw_neg, yl_add, yl_sub, yl_mul, cj_and, cj_or, cj_xor, cj_shl, cj_shr, cj_ushr, cj_div, cj_i2c, cj_i2b, cj_dc, ck_and, ck_or, ck_xor, ck_shl, ck_shr, ck_ushr, ck_i2l, ck_l2i, ck_cmp]) ?_
        exact xZ.sub (xsc (.head _) (xsc (.tail _ (.head _)) (xsc (.tail _ (.tail _ (.tail _ (.head _)))) (xsc (.tail _ (.tail _ (.tail _ (.tail _ (.head _))))) xsn)))) (show ([0, 6, 10, 11, 12] : List Nat).Nodup from by decide) (k_f_Law_isPlanned_496 O f d (f_Law_isPlanned_451 O f n) ih v0 v6 v11 v12 v10 0 M3)
      · skip
        refine xZ.adv (me := xm203) hP_203 1 (pc' := 496) (lv' := [(0, .ref v0), (6, .ref v6), (10, .int (yw v10)), (11, .ref v11), (12, .int (yw v12))]) (st' := [.int (1 : Int32), .int (yw v10)]) rfl ?_
        refine xZ.eqs (lv2 := [(0, .ref v0), (6, .ref v6), (10, .int (yw v10)), (11, .ref v11), (12, .int (yw v12))]) (st2 := [.int (yw 1), .int (yw v10)]) rfl (by simp only [yl_lit, yL_lit, yw_add, yw_sub, yw_mul, yw_neg, yl_add, yl_sub, yl_mul, cj_and, cj_or, cj_xor, cj_shl, cj_shr, cj_ushr, cj_div, cj_i2c, cj_i2b, cj_dc, ck_and, ck_or, ck_xor, ck_shl, ck_shr, ck_ushr, ck_i2l, ck_l2i, ck_cmp]) ?_
        exact xZ.sub (xsc (.head _) (xsc (.tail _ (.head _)) (xsc (.tail _ (.tail _ (.tail _ (.head _)))) (xsc (.tail _ (.tail _ (.tail _ (.tail _ (.head _))))) xsn)))) (show ([0, 6, 10, 11, 12] : List Nat).Nodup from by decide) (k_f_Law_isPlanned_496 O f d (f_Law_isPlanned_451 O f n) ih v0 v6 v11 v12 v10 1 M3)
def f_Law_isPlanned_362 (O : Nat → Option va_E) (f : Nat) (K293 : Nat → Nat → Int → Int → Int → Int → xM → Option (Int × xM)) : Nat → Nat → Nat → Int → Int → Int → Int → Int → Int → xM → Option (Int × xM)
  | 0, _, _, _, _, _, _, _, _, _ => none
  | n + 1, v0, v6, v8, v9, v10, v11, v12, v13, M =>
    if yw 3 ≤ yw v13 then (
      K293 v0 v6 v8 v9 v10 (v11 + 1) M
    ) else
    if yw v12 = yw 0 then (
      f_Law_isPlanned_362 O f K293 n v0 v6 v8 v9 v10 v11 v12 (v13 + 1) M
    ) else
    (gR O M v6 13 0).bind fun x1 =>
    (aJ O M x1 v11).bind fun x2 =>
    xcl (f_Law_takesPart O f v0 x2 v13 M) fun x3 M1 =>
    if yw x3 = yw 0 then (
      f_Law_isPlanned_362 O f K293 n v0 v6 v8 v9 v10 v11 v12 (v13 + 1) M1
    ) else
    (gR O M1 v6 13 0).bind fun x4 =>
    (aJ O M1 x4 v10).bind fun x5 =>
    xcl (f_Law_takesPart O f v0 x5 v13 M1) fun x6 M2 =>
    if yw x6 = yw 0 then (
      f_Law_isPlanned_362 O f K293 n v0 v6 v8 v9 v10 v11 v12 (v13 + 1) M2
    ) else
    some (0, M2)
set_option maxRecDepth 20000 in
theorem k_f_Law_isPlanned_362 (O : Nat → Option va_E) (f d : Nat) (K293 : Nat → Nat → Int → Int → Int → Int → xM → Option (Int × xM)) (hK293 : ∀ (v0 : Nat) (v6 : Nat) (v8 : Int) (v9 : Int) (v10 : Int) (v11 : Int) M, xZ oJ O (d + 69) 203 293 [(0, .ref v0), (6, .ref v6), (8, .int (yw v8)), (9, .int (yw v9)), (10, .int (yw v10)), (11, .int (yw v11))] [] M (K293 v0 v6 v8 v9 v10 v11 M)) : ∀ (n : Nat) (v0 : Nat) (v6 : Nat) (v8 : Int) (v9 : Int) (v10 : Int) (v11 : Int) (v12 : Int) (v13 : Int) (M : xM), xZ oJ O (d + 69) 203 362 [(0, .ref v0), (6, .ref v6), (8, .int (yw v8)), (9, .int (yw v9)), (10, .int (yw v10)), (11, .int (yw v11)), (12, .int (yw v12)), (13, .int (yw v13))] [] M (f_Law_isPlanned_362 O f K293 n v0 v6 v8 v9 v10 v11 v12 v13 M) := by
  intro n
  induction n with
  | zero =>
    intro v0 v6 v8 v9 v10 v11 v12 v13 M
    exact xZ.no
  | succ n ih =>
    intro v0 v6 v8 v9 v10 v11 v12 v13 M
    unfold f_Law_isPlanned_362
    refine xZ.adv (me := xm203) hP_203 2 (pc' := 365) (lv' := [(0, .ref v0), (6, .ref v6), (8, .int (yw v8)), (9, .int (yw v9)), (10, .int (yw v10)), (11, .int (yw v11)), (12, .int (yw v12)), (13, .int (yw v13))]) (st' := [.int (3 : Int32), .int (yw v13)]) rfl ?_
    refine xZ.eqs (lv2 := [(0, .ref v0), (6, .ref v6), (8, .int (yw v8)), (9, .int (yw v9)), (10, .int (yw v10)), (11, .int (yw v11)), (12, .int (yw v12)), (13, .int (yw v13))]) (st2 := [.int (yw 3), .int (yw v13)]) rfl (by simp only [yl_lit, yL_lit, yw_add, yw_sub, yw_mul, yw_neg, yl_add, yl_sub, yl_mul, cj_and, cj_or, cj_xor, cj_shl, cj_shr, cj_ushr, cj_div, cj_i2c, cj_i2b, cj_dc, ck_and, ck_or, ck_xor, ck_shl, ck_shr, ck_ushr, ck_i2l, ck_l2i, ck_cmp]) ?_
    refine xZ.jc_ge (me := xm203) hP_203 rfl (fun h1 => ?_) (fun h1 => ?_)
    · skip
      refine xZ.adv (me := xm203) hP_203 2 (pc' := 293) (lv' := [(11, .int ((yw v11) + (1 : Int32))), (0, .ref v0), (6, .ref v6), (8, .int (yw v8)), (9, .int (yw v9)), (10, .int (yw v10)), (12, .int (yw v12)), (13, .int (yw v13))]) (st' := []) rfl ?_
      refine xZ.eqs (lv2 := [(11, .int (yw (v11 + 1))), (0, .ref v0), (6, .ref v6), (8, .int (yw v8)), (9, .int (yw v9)), (10, .int (yw v10)), (12, .int (yw v12)), (13, .int (yw v13))]) (st2 := []) (by simp only [yl_lit, yL_lit, yw_add, yw_sub, yw_mul, yw_neg, yl_add, yl_sub, yl_mul, cj_and, cj_or, cj_xor, cj_shl, cj_shr, cj_ushr, cj_div, cj_i2c, cj_i2b, cj_dc, ck_and, ck_or, ck_xor, ck_shl, ck_shr, ck_ushr, ck_i2l, ck_l2i, ck_cmp]) rfl ?_
      exact xZ.sub (xsc (.tail _ (.head _)) (xsc (.tail _ (.tail _ (.head _))) (xsc (.tail _ (.tail _ (.tail _ (.head _)))) (xsc (.tail _ (.tail _ (.tail _ (.tail _ (.head _))))) (xsc (.tail _ (.tail _ (.tail _ (.tail _ (.tail _ (.head _)))))) (xsc (.head _) xsn)))))) (show ([11, 0, 6, 8, 9, 10, 12, 13] : List Nat).Nodup from by decide) (hK293 v0 v6 v8 v9 v10 (v11 + 1) M)
    · skip
      refine xZ.adv (me := xm203) hP_203 1 (pc' := 370) (lv' := [(0, .ref v0), (6, .ref v6), (8, .int (yw v8)), (9, .int (yw v9)), (10, .int (yw v10)), (11, .int (yw v11)), (12, .int (yw v12)), (13, .int (yw v13))]) (st' := [.int (yw v12)]) rfl ?_
      refine xZ.jf_eq (me := xm203) hP_203 rfl (fun h2 => ?_) (fun h2 => ?_)
      · skip
        refine xZ.adv (me := xm203) hP_203 2 (pc' := 362) (lv' := [(13, .int ((yw v13) + (1 : Int32))), (0, .ref v0), (6, .ref v6), (8, .int (yw v8)), (9, .int (yw v9)), (10, .int (yw v10)), (11, .int (yw v11)), (12, .int (yw v12))]) (st' := []) rfl ?_
        refine xZ.eqs (lv2 := [(13, .int (yw (v13 + 1))), (0, .ref v0), (6, .ref v6), (8, .int (yw v8)), (9, .int (yw v9)), (10, .int (yw v10)), (11, .int (yw v11)), (12, .int (yw v12))]) (st2 := []) (by simp only [yl_lit, yL_lit, yw_add, yw_sub, yw_mul, yw_neg, yl_add, yl_sub, yl_mul, cj_and, cj_or, cj_xor, cj_shl, cj_shr, cj_ushr, cj_div, cj_i2c, cj_i2b, cj_dc, ck_and, ck_or, ck_xor, ck_shl, ck_shr, ck_ushr, ck_i2l, ck_l2i, ck_cmp]) rfl ?_
        exact xZ.sub (xsc (.tail _ (.head _)) (xsc (.tail _ (.tail _ (.head _))) (xsc (.tail _ (.tail _ (.tail _ (.head _)))) (xsc (.tail _ (.tail _ (.tail _ (.tail _ (.head _))))) (xsc (.tail _ (.tail _ (.tail _ (.tail _ (.tail _ (.head _)))))) (xsc (.tail _ (.tail _ (.tail _ (.tail _ (.tail _ (.tail _ (.head _))))))) (xsc (.tail _ (.tail _ (.tail _ (.tail _ (.tail _ (.tail _ (.tail _ (.head _)))))))) (xsc (.head _) xsn)))))))) (show ([13, 0, 6, 8, 9, 10, 11, 12] : List Nat).Nodup from by decide) (ih v0 v6 v8 v9 v10 v11 v12 (v13 + 1) M)
      · skip
        refine xZ.adv (me := xm203) hP_203 2 (pc' := 376) (lv' := [(0, .ref v0), (6, .ref v6), (8, .int (yw v8)), (9, .int (yw v9)), (10, .int (yw v10)), (11, .int (yw v11)), (12, .int (yw v12)), (13, .int (yw v13))]) (st' := [.ref v6, .ref v0]) rfl ?_
        refine xZ.k_gR (me := xm203) hP_203 rfl (fun x1 => ?_)
        refine xZ.adv (me := xm203) hP_203 1 (pc' := 381) (lv' := [(0, .ref v0), (6, .ref v6), (8, .int (yw v8)), (9, .int (yw v9)), (10, .int (yw v10)), (11, .int (yw v11)), (12, .int (yw v12)), (13, .int (yw v13))]) (st' := [.int (yw v11), .ref x1, .ref v0]) rfl ?_
        refine xZ.k_aJ (me := xm203) hP_203 rfl (fun x2 => ?_)
        refine xZ.adv (me := xm203) hP_203 1 (pc' := 384) (lv' := [(0, .ref v0), (6, .ref v6), (8, .int (yw v8)), (9, .int (yw v9)), (10, .int (yw v10)), (11, .int (yw v11)), (12, .int (yw v12)), (13, .int (yw v13))]) (st' := [.int (yw v13), .int (yw x2), .ref v0]) rfl ?_
        refine xZ.calls (κ := oJ) (av := [.ref v0, .int (yw x2), .int (yw v13)]) (rest := []) (st' := fun x3 => [.int (yw x3)]) (me := xm203) hP_203 rfl rfl rfl (Nat.le_of_ble_eq_true rfl) (by decide) hP_155 (Nat.le_of_ble_eq_true rfl) (fun _ => rfl) (k_f_Law_takesPart O f (d + 65) v0 x2 v13 M) (fun x3 M1 => ?_)
        refine xZ.jf_eq (me := xm203) hP_203 rfl (fun h3 => ?_) (fun h3 => ?_)
        · skip
          refine xZ.adv (me := xm203) hP_203 2 (pc' := 362) (lv' := [(13, .int ((yw v13) + (1 : Int32))), (0, .ref v0), (6, .ref v6), (8, .int (yw v8)), (9, .int (yw v9)), (10, .int (yw v10)), (11, .int (yw v11)), (12, .int (yw v12))]) (st' := []) rfl ?_
          refine xZ.eqs (lv2 := [(13, .int (yw (v13 + 1))), (0, .ref v0), (6, .ref v6), (8, .int (yw v8)), (9, .int (yw v9)), (10, .int (yw v10)), (11, .int (yw v11)), (12, .int (yw v12))]) (st2 := []) (by simp only [yl_lit, yL_lit, yw_add, yw_sub, yw_mul, yw_neg, yl_add, yl_sub, yl_mul, cj_and, cj_or, cj_xor, cj_shl, cj_shr, cj_ushr, cj_div, cj_i2c, cj_i2b, cj_dc, ck_and, ck_or, ck_xor, ck_shl, ck_shr, ck_ushr, ck_i2l, ck_l2i, ck_cmp]) rfl ?_
          exact xZ.sub (xsc (.tail _ (.head _)) (xsc (.tail _ (.tail _ (.head _))) (xsc (.tail _ (.tail _ (.tail _ (.head _)))) (xsc (.tail _ (.tail _ (.tail _ (.tail _ (.head _))))) (xsc (.tail _ (.tail _ (.tail _ (.tail _ (.tail _ (.head _)))))) (xsc (.tail _ (.tail _ (.tail _ (.tail _ (.tail _ (.tail _ (.head _))))))) (xsc (.tail _ (.tail _ (.tail _ (.tail _ (.tail _ (.tail _ (.tail _ (.head _)))))))) (xsc (.head _) xsn)))))))) (show ([13, 0, 6, 8, 9, 10, 11, 12] : List Nat).Nodup from by decide) (ih v0 v6 v8 v9 v10 v11 v12 (v13 + 1) M1)
        · skip
          refine xZ.adv (me := xm203) hP_203 2 (pc' := 393) (lv' := [(0, .ref v0), (6, .ref v6), (8, .int (yw v8)), (9, .int (yw v9)), (10, .int (yw v10)), (11, .int (yw v11)), (12, .int (yw v12)), (13, .int (yw v13))]) (st' := [.ref v6, .ref v0]) rfl ?_
          refine xZ.k_gR (me := xm203) hP_203 rfl (fun x4 => ?_)
          refine xZ.adv (me := xm203) hP_203 1 (pc' := 398) (lv' := [(0, .ref v0), (6, .ref v6), (8, .int (yw v8)), (9, .int (yw v9)), (10, .int (yw v10)), (11, .int (yw v11)), (12, .int (yw v12)), (13, .int (yw v13))]) (st' := [.int (yw v10), .ref x4, .ref v0]) rfl ?_
          refine xZ.k_aJ (me := xm203) hP_203 rfl (fun x5 => ?_)
          refine xZ.adv (me := xm203) hP_203 1 (pc' := 401) (lv' := [(0, .ref v0), (6, .ref v6), (8, .int (yw v8)), (9, .int (yw v9)), (10, .int (yw v10)), (11, .int (yw v11)), (12, .int (yw v12)), (13, .int (yw v13))]) (st' := [.int (yw v13), .int (yw x5), .ref v0]) rfl ?_
          refine xZ.calls (κ := oJ) (av := [.ref v0, .int (yw x5), .int (yw v13)]) (rest := []) (st' := fun x6 => [.int (yw x6)]) (me := xm203) hP_203 rfl rfl rfl (Nat.le_of_ble_eq_true rfl) (by decide) hP_155 (Nat.le_of_ble_eq_true rfl) (fun _ => rfl) (k_f_Law_takesPart O f (d + 65) v0 x5 v13 M1) (fun x6 M2 => ?_)
          refine xZ.jf_eq (me := xm203) hP_203 rfl (fun h4 => ?_) (fun h4 => ?_)
          · skip
            refine xZ.adv (me := xm203) hP_203 2 (pc' := 362) (lv' := [(13, .int ((yw v13) + (1 : Int32))), (0, .ref v0), (6, .ref v6), (8, .int (yw v8)), (9, .int (yw v9)), (10, .int (yw v10)), (11, .int (yw v11)), (12, .int (yw v12))]) (st' := []) rfl ?_
            refine xZ.eqs (lv2 := [(13, .int (yw (v13 + 1))), (0, .ref v0), (6, .ref v6), (8, .int (yw v8)), (9, .int (yw v9)), (10, .int (yw v10)), (11, .int (yw v11)), (12, .int (yw v12))]) (st2 := []) (by simp only [yl_lit, yL_lit, yw_add, yw_sub, yw_mul, yw_neg, yl_add, yl_sub, yl_mul, cj_and, cj_or, cj_xor, cj_shl, cj_shr, cj_ushr, cj_div, cj_i2c, cj_i2b, cj_dc, ck_and, ck_or, ck_xor, ck_shl, ck_shr, ck_ushr, ck_i2l, ck_l2i, ck_cmp]) rfl ?_
            exact xZ.sub (xsc (.tail _ (.head _)) (xsc (.tail _ (.tail _ (.head _))) (xsc (.tail _ (.tail _ (.tail _ (.head _)))) (xsc (.tail _ (.tail _ (.tail _ (.tail _ (.head _))))) (xsc (.tail _ (.tail _ (.tail _ (.tail _ (.tail _ (.head _)))))) (xsc (.tail _ (.tail _ (.tail _ (.tail _ (.tail _ (.tail _ (.head _))))))) (xsc (.tail _ (.tail _ (.tail _ (.tail _ (.tail _ (.tail _ (.tail _ (.head _)))))))) (xsc (.head _) xsn)))))))) (show ([13, 0, 6, 8, 9, 10, 11, 12] : List Nat).Nodup from by decide) (ih v0 v6 v8 v9 v10 v11 v12 (v13 + 1) M2)
          · skip
            refine xZ.adv (me := xm203) hP_203 1 (pc' := 408) (lv' := [(0, .ref v0), (6, .ref v6), (8, .int (yw v8)), (9, .int (yw v9)), (10, .int (yw v10)), (11, .int (yw v11)), (12, .int (yw v12)), (13, .int (yw v13))]) (st' := [.int (0 : Int32)]) rfl ?_
            refine xZ.eqs (lv2 := [(0, .ref v0), (6, .ref v6), (8, .int (yw v8)), (9, .int (yw v9)), (10, .int (yw v10)), (11, .int (yw v11)), (12, .int (yw v12)), (13, .int (yw v13))]) (st2 := [.int (yw 0)]) rfl (by simp only [yl_lit, yL_lit, yw_add, yw_sub, yw_mul, yw_neg, yl_add, yl_sub, yl_mul, cj_and, cj_or, cj_xor, cj_shl, cj_shr, cj_ushr, cj_div, cj_i2c, cj_i2b, cj_dc, ck_and, ck_or, ck_xor, ck_shl, ck_shr, ck_ushr, ck_i2l, ck_l2i, ck_cmp]) ?_
            exact xZ.jrete (me := xm203) hP_203 rfl rfl rfl
def f_Law_isPlanned_357 (O : Nat → Option va_E) (f : Nat) (K293 : Nat → Nat → Int → Int → Int → Int → xM → Option (Int × xM)) (v0 : Nat) (v6 : Nat) (v8 : Int) (v9 : Int) (v10 : Int) (v11 : Int) (s0 : Int) (M : xM) : Option (Int × xM) :=
  f_Law_isPlanned_362 O f K293 f v0 v6 v8 v9 v10 v11 s0 0 M
set_option maxRecDepth 20000 in
theorem k_f_Law_isPlanned_357 (O : Nat → Option va_E) (f d : Nat) (K293 : Nat → Nat → Int → Int → Int → Int → xM → Option (Int × xM)) (hK293 : ∀ (v0 : Nat) (v6 : Nat) (v8 : Int) (v9 : Int) (v10 : Int) (v11 : Int) M, xZ oJ O (d + 69) 203 293 [(0, .ref v0), (6, .ref v6), (8, .int (yw v8)), (9, .int (yw v9)), (10, .int (yw v10)), (11, .int (yw v11))] [] M (K293 v0 v6 v8 v9 v10 v11 M)) (v0 : Nat) (v6 : Nat) (v8 : Int) (v9 : Int) (v10 : Int) (v11 : Int) (s0 : Int) (M : xM) : xZ oJ O (d + 69) 203 357 [(0, .ref v0), (6, .ref v6), (8, .int (yw v8)), (9, .int (yw v9)), (10, .int (yw v10)), (11, .int (yw v11))] [.int (yw s0)] M (f_Law_isPlanned_357 O f K293 v0 v6 v8 v9 v10 v11 s0 M) := by
  unfold f_Law_isPlanned_357
  refine xZ.adv (me := xm203) hP_203 3 (pc' := 362) (lv' := [(13, .int (0 : Int32)), (12, .int (yw s0)), (0, .ref v0), (6, .ref v6), (8, .int (yw v8)), (9, .int (yw v9)), (10, .int (yw v10)), (11, .int (yw v11))]) (st' := []) rfl ?_
  refine xZ.eqs (lv2 := [(13, .int (yw 0)), (12, .int (yw s0)), (0, .ref v0), (6, .ref v6), (8, .int (yw v8)), (9, .int (yw v9)), (10, .int (yw v10)), (11, .int (yw v11))]) (st2 := []) (by simp only [yl_lit, yL_lit, yw_add, yw_sub, yw_mul, yw_neg, yl_add, yl_sub, yl_mul, cj_and, cj_or, cj_xor, cj_shl, cj_shr, cj_ushr, cj_div, cj_i2c, cj_i2b, cj_dc, ck_and, ck_or, ck_xor, ck_shl, ck_shr, ck_ushr, ck_i2l, ck_l2i, ck_cmp]) rfl ?_
  exact xZ.sub (xsc (.tail _ (.tail _ (.head _))) (xsc (.tail _ (.tail _ (.tail _ (.head _)))) (xsc (.tail _ (.tail _ (.tail _ (.tail _ (.head _))))) (xsc (.tail _ (.tail _ (.tail _ (.tail _ (.tail _ (.head _)))))) (xsc (.tail _ (.tail _ (.tail _ (.tail _ (.tail _ (.tail _ (.head _))))))) (xsc (.tail _ (.tail _ (.tail _ (.tail _ (.tail _ (.tail _ (.tail _ (.head _)))))))) (xsc (.tail _ (.head _)) (xsc (.head _) xsn)))))))) (show ([13, 12, 0, 6, 8, 9, 10, 11] : List Nat).Nodup from by decide) (k_f_Law_isPlanned_362 O f d K293 hK293 f v0 v6 v8 v9 v10 v11 s0 0 M)
def f_Law_isPlanned_356 (O : Nat → Option va_E) (f : Nat) (K293 : Nat → Nat → Int → Int → Int → Int → xM → Option (Int × xM)) (v0 : Nat) (v6 : Nat) (v8 : Int) (v9 : Int) (v10 : Int) (v11 : Int) (M : xM) : Option (Int × xM) :=
  f_Law_isPlanned_357 O f K293 v0 v6 v8 v9 v10 v11 0 M
set_option maxRecDepth 20000 in
theorem k_f_Law_isPlanned_356 (O : Nat → Option va_E) (f d : Nat) (K293 : Nat → Nat → Int → Int → Int → Int → xM → Option (Int × xM)) (hK293 : ∀ (v0 : Nat) (v6 : Nat) (v8 : Int) (v9 : Int) (v10 : Int) (v11 : Int) M, xZ oJ O (d + 69) 203 293 [(0, .ref v0), (6, .ref v6), (8, .int (yw v8)), (9, .int (yw v9)), (10, .int (yw v10)), (11, .int (yw v11))] [] M (K293 v0 v6 v8 v9 v10 v11 M)) (v0 : Nat) (v6 : Nat) (v8 : Int) (v9 : Int) (v10 : Int) (v11 : Int) (M : xM) : xZ oJ O (d + 69) 203 356 [(0, .ref v0), (6, .ref v6), (8, .int (yw v8)), (9, .int (yw v9)), (10, .int (yw v10)), (11, .int (yw v11))] [] M (f_Law_isPlanned_356 O f K293 v0 v6 v8 v9 v10 v11 M) := by
  unfold f_Law_isPlanned_356
  refine xZ.adv (me := xm203) hP_203 1 (pc' := 357) (lv' := [(0, .ref v0), (6, .ref v6), (8, .int (yw v8)), (9, .int (yw v9)), (10, .int (yw v10)), (11, .int (yw v11))]) (st' := [.int (0 : Int32)]) rfl ?_
  refine xZ.eqs (lv2 := [(0, .ref v0), (6, .ref v6), (8, .int (yw v8)), (9, .int (yw v9)), (10, .int (yw v10)), (11, .int (yw v11))]) (st2 := [.int (yw 0)]) rfl (by simp only [yl_lit, yL_lit, yw_add, yw_sub, yw_mul, yw_neg, yl_add, yl_sub, yl_mul, cj_and, cj_or, cj_xor, cj_shl, cj_shr, cj_ushr, cj_div, cj_i2c, cj_i2b, cj_dc, ck_and, ck_or, ck_xor, ck_shl, ck_shr, ck_ushr, ck_i2l, ck_l2i, ck_cmp]) ?_
  exact (k_f_Law_isPlanned_357 O f d K293 hK293 v0 v6 v8 v9 v10 v11 0 M)
def f_Law_isPlanned_293 (O : Nat → Option va_E) (f : Nat) (K218 : Nat → Nat → Int → Int → Int → xM → Option (Int × xM)) : Nat → Nat → Nat → Int → Int → Int → Int → xM → Option (Int × xM)
  | 0, _, _, _, _, _, _, _ => none
  | n + 1, v0, v6, v8, v9, v10, v11, M =>
    if yw v10 ≤ yw v11 then (
      K218 v0 v6 v8 v9 (v10 + 1) M
    ) else
    (isO O M v0 12).bind fun _ =>
    xcl (f_Calendarhall_planAt O f v0 v10 2 M) fun x1 M1 =>
    (isO O M1 v0 12).bind fun _ =>
    xcl (f_Calendarhall_planAt O f v0 v11 2 M1) fun x2 M2 =>
    (gR O M2 v6 13 3).bind fun x3 =>
    (aJ O M2 x3 v11).bind fun x4 =>
    if yw (x2 + x4) ≤ yw x1 then (
      f_Law_isPlanned_356 O f (f_Law_isPlanned_293 O f K218 n) v0 v6 v8 v9 v10 v11 M2
    ) else
    (isO O M2 v0 12).bind fun _ =>
    xcl (f_Calendarhall_planAt O f v0 v11 2 M2) fun x5 M3 =>
    (isO O M3 v0 12).bind fun _ =>
    xcl (f_Calendarhall_planAt O f v0 v10 2 M3) fun x6 M4 =>
    (gR O M4 v6 13 3).bind fun x7 =>
    (aJ O M4 x7 v10).bind fun x8 =>
    if yw (x6 + x8) ≤ yw x5 then (
      f_Law_isPlanned_356 O f (f_Law_isPlanned_293 O f K218 n) v0 v6 v8 v9 v10 v11 M4
    ) else
    f_Law_isPlanned_357 O f (f_Law_isPlanned_293 O f K218 n) v0 v6 v8 v9 v10 v11 1 M4
set_option maxRecDepth 20000 in
theorem k_f_Law_isPlanned_293 (O : Nat → Option va_E) (f d : Nat) (K218 : Nat → Nat → Int → Int → Int → xM → Option (Int × xM)) (hK218 : ∀ (v0 : Nat) (v6 : Nat) (v8 : Int) (v9 : Int) (v10 : Int) M, xZ oJ O (d + 69) 203 218 [(0, .ref v0), (6, .ref v6), (8, .int (yw v8)), (9, .int (yw v9)), (10, .int (yw v10))] [] M (K218 v0 v6 v8 v9 v10 M)) : ∀ (n : Nat) (v0 : Nat) (v6 : Nat) (v8 : Int) (v9 : Int) (v10 : Int) (v11 : Int) (M : xM), xZ oJ O (d + 69) 203 293 [(0, .ref v0), (6, .ref v6), (8, .int (yw v8)), (9, .int (yw v9)), (10, .int (yw v10)), (11, .int (yw v11))] [] M (f_Law_isPlanned_293 O f K218 n v0 v6 v8 v9 v10 v11 M) := by
  intro n
  induction n with
  | zero =>
    intro v0 v6 v8 v9 v10 v11 M
    exact xZ.no
  | succ n ih =>
    intro v0 v6 v8 v9 v10 v11 M
    unfold f_Law_isPlanned_293
    refine xZ.adv (me := xm203) hP_203 2 (pc' := 297) (lv' := [(0, .ref v0), (6, .ref v6), (8, .int (yw v8)), (9, .int (yw v9)), (10, .int (yw v10)), (11, .int (yw v11))]) (st' := [.int (yw v10), .int (yw v11)]) rfl ?_
    refine xZ.jc_ge (me := xm203) hP_203 rfl (fun h1 => ?_) (fun h1 => ?_)
    · skip
      refine xZ.adv (me := xm203) hP_203 2 (pc' := 218) (lv' := [(10, .int ((yw v10) + (1 : Int32))), (0, .ref v0), (6, .ref v6), (8, .int (yw v8)), (9, .int (yw v9)), (11, .int (yw v11))]) (st' := []) rfl ?_
      refine xZ.eqs (lv2 := [(10, .int (yw (v10 + 1))), (0, .ref v0), (6, .ref v6), (8, .int (yw v8)), (9, .int (yw v9)), (11, .int (yw v11))]) (st2 := []) (by simp only [yl_lit, yL_lit, yw_add, yw_sub, yw_mul, yw_neg, yl_add, yl_sub, yl_mul, cj_and, cj_or, cj_xor, cj_shl, cj_shr, cj_ushr, cj_div, cj_i2c, cj_i2b, cj_dc, ck_and, ck_or, ck_xor, ck_shl, ck_shr, ck_ushr, ck_i2l, ck_l2i, ck_cmp]) rfl ?_
      exact xZ.sub (xsc (.tail _ (.head _)) (xsc (.tail _ (.tail _ (.head _))) (xsc (.tail _ (.tail _ (.tail _ (.head _)))) (xsc (.tail _ (.tail _ (.tail _ (.tail _ (.head _))))) (xsc (.head _) xsn))))) (show ([10, 0, 6, 8, 9, 11] : List Nat).Nodup from by decide) (hK218 v0 v6 v8 v9 (v10 + 1) M)
    · skip
      refine xZ.adv (me := xm203) hP_203 3 (pc' := 304) (lv' := [(0, .ref v0), (6, .ref v6), (8, .int (yw v8)), (9, .int (yw v9)), (10, .int (yw v10)), (11, .int (yw v11))]) (st' := [.int (2 : Int32), .int (yw v10), .ref v0]) rfl ?_
      refine xZ.eqs (lv2 := [(0, .ref v0), (6, .ref v6), (8, .int (yw v8)), (9, .int (yw v9)), (10, .int (yw v10)), (11, .int (yw v11))]) (st2 := [.int (yw 2), .int (yw v10), .ref v0]) rfl (by simp only [yl_lit, yL_lit, yw_add, yw_sub, yw_mul, yw_neg, yl_add, yl_sub, yl_mul, cj_and, cj_or, cj_xor, cj_shl, cj_shr, cj_ushr, cj_div, cj_i2c, cj_i2b, cj_dc, ck_and, ck_or, ck_xor, ck_shl, ck_shr, ck_ushr, ck_i2l, ck_l2i, ck_cmp]) ?_
      refine xZ.callv (κ := oJ) (av := [.int (yw v10), .int (yw 2)]) (rest := []) (st' := fun x1 => [.int (yw x1)]) (k0 := v0) (me := xm203) hP_203 rfl (Or.inl rfl) ⟨rfl, by decide⟩ rfl rfl (Nat.le_of_ble_eq_true rfl) (by decide) hP_212 (Nat.le_of_ble_eq_true rfl) (fun _ => rfl) (k_f_Calendarhall_planAt O f (d + 66) v0 v10 2 M) (fun x1 M1 => ?_)
      refine xZ.adv (me := xm203) hP_203 3 (pc' := 311) (lv' := [(0, .ref v0), (6, .ref v6), (8, .int (yw v8)), (9, .int (yw v9)), (10, .int (yw v10)), (11, .int (yw v11))]) (st' := [.int (2 : Int32), .int (yw v11), .ref v0, .int (yw x1)]) rfl ?_
      refine xZ.eqs (lv2 := [(0, .ref v0), (6, .ref v6), (8, .int (yw v8)), (9, .int (yw v9)), (10, .int (yw v10)), (11, .int (yw v11))]) (st2 := [.int (yw 2), .int (yw v11), .ref v0, .int (yw x1)]) rfl (by simp only [yl_lit, yL_lit, yw_add, yw_sub, yw_mul, yw_neg, yl_add, yl_sub, yl_mul, cj_and, cj_or, cj_xor, cj_shl, cj_shr, cj_ushr, cj_div, cj_i2c, cj_i2b, cj_dc, ck_and, ck_or, ck_xor, ck_shl, ck_shr, ck_ushr, ck_i2l, ck_l2i, ck_cmp]) ?_
      refine xZ.callv (κ := oJ) (av := [.int (yw v11), .int (yw 2)]) (rest := [.int (yw x1)]) (st' := fun x2 => [.int (yw x2), .int (yw x1)]) (k0 := v0) (me := xm203) hP_203 rfl (Or.inl rfl) ⟨rfl, by decide⟩ rfl rfl (Nat.le_of_ble_eq_true rfl) (by decide) hP_212 (Nat.le_of_ble_eq_true rfl) (fun _ => rfl) (k_f_Calendarhall_planAt O f (d + 66) v0 v11 2 M1) (fun x2 M2 => ?_)
      refine xZ.adv (me := xm203) hP_203 1 (pc' := 316) (lv' := [(0, .ref v0), (6, .ref v6), (8, .int (yw v8)), (9, .int (yw v9)), (10, .int (yw v10)), (11, .int (yw v11))]) (st' := [.ref v6, .int (yw x2), .int (yw x1)]) rfl ?_
      refine xZ.k_gR (me := xm203) hP_203 rfl (fun x3 => ?_)
      refine xZ.adv (me := xm203) hP_203 1 (pc' := 321) (lv' := [(0, .ref v0), (6, .ref v6), (8, .int (yw v8)), (9, .int (yw v9)), (10, .int (yw v10)), (11, .int (yw v11))]) (st' := [.int (yw v11), .ref x3, .int (yw x2), .int (yw x1)]) rfl ?_
      refine xZ.k_aJ (me := xm203) hP_203 rfl (fun x4 => ?_)
      refine xZ.adv (me := xm203) hP_203 1 (pc' := 323) (lv' := [(0, .ref v0), (6, .ref v6), (8, .int (yw v8)), (9, .int (yw v9)), (10, .int (yw v10)), (11, .int (yw v11))]) (st' := [.int ((yw x2) + (yw x4)), .int (yw x1)]) rfl ?_
      refine xZ.eqs (lv2 := [(0, .ref v0), (6, .ref v6), (8, .int (yw v8)), (9, .int (yw v9)), (10, .int (yw v10)), (11, .int (yw v11))]) (st2 := [.int (yw (x2 + x4)), .int (yw x1)]) rfl (by simp only [yl_lit, yL_lit, yw_add, yw_sub, yw_mul, yw_neg, yl_add, yl_sub, yl_mul, cj_and, cj_or, cj_xor, cj_shl, cj_shr, cj_ushr, cj_div, cj_i2c, cj_i2b, cj_dc, ck_and, ck_or, ck_xor, ck_shl, ck_shr, ck_ushr, ck_i2l, ck_l2i, ck_cmp]) ?_
      refine xZ.jc_ge (me := xm203) hP_203 rfl (fun h2 => ?_) (fun h2 => ?_)
      · skip
        exact (k_f_Law_isPlanned_356 O f d (f_Law_isPlanned_293 O f K218 n) ih v0 v6 v8 v9 v10 v11 M2)
      · skip
        refine xZ.adv (me := xm203) hP_203 3 (pc' := 330) (lv' := [(0, .ref v0), (6, .ref v6), (8, .int (yw v8)), (9, .int (yw v9)), (10, .int (yw v10)), (11, .int (yw v11))]) (st' := [.int (2 : Int32), .int (yw v11), .ref v0]) rfl ?_
        refine xZ.eqs (lv2 := [(0, .ref v0), (6, .ref v6), (8, .int (yw v8)), (9, .int (yw v9)), (10, .int (yw v10)), (11, .int (yw v11))]) (st2 := [.int (yw 2), .int (yw v11), .ref v0]) rfl (by simp only [yl_lit, yL_lit, yw_add, yw_sub, yw_mul, yw_neg, yl_add, yl_sub, yl_mul, cj_and, cj_or, cj_xor, cj_shl, cj_shr, cj_ushr, cj_div, cj_i2c, cj_i2b, cj_dc, ck_and, ck_or, ck_xor, ck_shl, ck_shr, ck_ushr, ck_i2l, ck_l2i, ck_cmp]) ?_
        refine xZ.callv (κ := oJ) (av := [.int (yw v11), .int (yw 2)]) (rest := []) (st' := fun x5 => [.int (yw x5)]) (k0 := v0) (me := xm203) hP_203 rfl (Or.inl rfl) ⟨rfl, by decide⟩ rfl rfl (Nat.le_of_ble_eq_true rfl) (by decide) hP_212 (Nat.le_of_ble_eq_true rfl) (fun _ => rfl) (k_f_Calendarhall_planAt O f (d + 66) v0 v11 2 M2) (fun x5 M3 => ?_)
        refine xZ.adv (me := xm203) hP_203 3 (pc' := 337) (lv' := [(0, .ref v0), (6, .ref v6), (8, .int (yw v8)), (9, .int (yw v9)), (10, .int (yw v10)), (11, .int (yw v11))]) (st' := [.int (2 : Int32), .int (yw v10), .ref v0, .int (yw x5)]) rfl ?_
        refine xZ.eqs (lv2 := [(0, .ref v0), (6, .ref v6), (8, .int (yw v8)), (9, .int (yw v9)), (10, .int (yw v10)), (11, .int (yw v11))]) (st2 := [.int (yw 2), .int (yw v10), .ref v0, .int (yw x5)]) rfl (by simp only [yl_lit, yL_lit, yw_add, yw_sub, yw_mul, yw_neg, yl_add, yl_sub, yl_mul, cj_and, cj_or, cj_xor, cj_shl, cj_shr, cj_ushr, cj_div, cj_i2c, cj_i2b, cj_dc, ck_and, ck_or, ck_xor, ck_shl, ck_shr, ck_ushr, ck_i2l, ck_l2i, ck_cmp]) ?_
        refine xZ.callv (κ := oJ) (av := [.int (yw v10), .int (yw 2)]) (rest := [.int (yw x5)]) (st' := fun x6 => [.int (yw x6), .int (yw x5)]) (k0 := v0) (me := xm203) hP_203 rfl (Or.inl rfl) ⟨rfl, by decide⟩ rfl rfl (Nat.le_of_ble_eq_true rfl) (by decide) hP_212 (Nat.le_of_ble_eq_true rfl) (fun _ => rfl) (k_f_Calendarhall_planAt O f (d + 66) v0 v10 2 M3) (fun x6 M4 => ?_)
        refine xZ.adv (me := xm203) hP_203 1 (pc' := 342) (lv' := [(0, .ref v0), (6, .ref v6), (8, .int (yw v8)), (9, .int (yw v9)), (10, .int (yw v10)), (11, .int (yw v11))]) (st' := [.ref v6, .int (yw x6), .int (yw x5)]) rfl ?_
        refine xZ.k_gR (me := xm203) hP_203 rfl (fun x7 => ?_)
        refine xZ.adv (me := xm203) hP_203 1 (pc' := 347) (lv' := [(0, .ref v0), (6, .ref v6), (8, .int (yw v8)), (9, .int (yw v9)), (10, .int (yw v10)), (11, .int (yw v11))]) (st' := [.int (yw v10), .ref x7, .int (yw x6), .int (yw x5)]) rfl ?_
        refine xZ.k_aJ (me := xm203) hP_203 rfl (fun x8 => ?_)
        refine xZ.adv (me := xm203) hP_203 1 (pc' := 349) (lv' := [(0, .ref v0), (6, .ref v6), (8, .int (yw v8)), (9, .int (yw v9)), (10, .int (yw v10)), (11, .int (yw v11))]) (st' := [.int ((yw x6) + (yw x8)), .int (yw x5)]) rfl ?_
        refine xZ.eqs (lv2 := [(0, .ref v0), (6, .ref v6), (8, .int (yw v8)), (9, .int (yw v9)), (10, .int (yw v10)), (11, .int (yw v11))]) (st2 := [.int (yw (x6 + x8)), .int (yw x5)]) rfl (by simp only [yl_lit, yL_lit, yw_add, yw_sub, yw_mul, yw_neg, yl_add, yl_sub, yl_mul, cj_and, cj_or, cj_xor, cj_shl, cj_shr, cj_ushr, cj_div, cj_i2c, cj_i2b, cj_dc, ck_and, ck_or, ck_xor, ck_shl, ck_shr, ck_ushr, ck_i2l, ck_l2i, ck_cmp]) ?_
        refine xZ.jc_ge (me := xm203) hP_203 rfl (fun h3 => ?_) (fun h3 => ?_)
        · skip
          exact (k_f_Law_isPlanned_356 O f d (f_Law_isPlanned_293 O f K218 n) ih v0 v6 v8 v9 v10 v11 M4)
        · skip
          refine xZ.adv (me := xm203) hP_203 2 (pc' := 357) (lv' := [(0, .ref v0), (6, .ref v6), (8, .int (yw v8)), (9, .int (yw v9)), (10, .int (yw v10)), (11, .int (yw v11))]) (st' := [.int (1 : Int32)]) rfl ?_
          refine xZ.eqs (lv2 := [(0, .ref v0), (6, .ref v6), (8, .int (yw v8)), (9, .int (yw v9)), (10, .int (yw v10)), (11, .int (yw v11))]) (st2 := [.int (yw 1)]) rfl (by simp only [yl_lit, yL_lit, yw_add, yw_sub, yw_mul, yw_neg, yl_add, yl_sub, yl_mul, cj_and, cj_or, cj_xor, cj_shl, cj_shr, cj_ushr, cj_div, cj_i2c, cj_i2b, cj_dc, ck_and, ck_or, ck_xor, ck_shl, ck_shr, ck_ushr, ck_i2l, ck_l2i, ck_cmp]) ?_
          exact (k_f_Law_isPlanned_357 O f d (f_Law_isPlanned_293 O f K218 n) ih v0 v6 v8 v9 v10 v11 1 M4)
def f_Law_isPlanned_218 (O : Nat → Option va_E) (f : Nat) : Nat → Nat → Nat → Int → Int → Int → xM → Option (Int × xM)
  | 0, _, _, _, _, _, _ => none
  | n + 1, v0, v6, v8, v9, v10, M =>
    (gJ O M v6 13 4).bind fun x1 =>
    if yw x1 ≤ yw v10 then (
      if yw v9 = yw v8 then (
        (gJ O M v6 13 4).bind fun x2 =>
        xcl (nAJ M 0 x2) fun x3 M1 =>
        f_Law_isPlanned_451 O f f v0 v6 0 x3 0 M1
      ) else
      some (0, M)
    ) else
    (isO O M v0 12).bind fun _ =>
    xcl (f_Calendarhall_planAt O f v0 v10 0 M) fun x4 M2 =>
    (gR O M2 v6 13 0).bind fun x5 =>
    (aJ O M2 x5 v10).bind fun x6 =>
    if yw x4 = yw x6 then (
      (isO O M2 v0 12).bind fun _ =>
      xcl (f_Calendarhall_planAt O f v0 v10 1 M2) fun x7 M3 =>
      (gR O M3 v6 13 1).bind fun x8 =>
      (aJ O M3 x8 v10).bind fun x9 =>
      if yw x7 = yw x9 then (
        (isO O M3 v0 12).bind fun _ =>
        xcl (f_Calendarhall_planAt O f v0 v10 2 M3) fun x10 M4 =>
        (gR O M4 v6 13 2).bind fun x11 =>
        (aJ O M4 x11 v10).bind fun x12 =>
        xcl (f_Math_abs O f (x10 - x12) M4) fun x13 M5 =>
        f_Law_isPlanned_293 O f (f_Law_isPlanned_218 O f n) f v0 v6 v8 (v9 + x13) v10 0 M5
      ) else
      some (0, M3)
    ) else
    some (0, M2)
set_option maxRecDepth 20000 in
theorem k_f_Law_isPlanned_218 (O : Nat → Option va_E) (f d : Nat) : ∀ (n : Nat) (v0 : Nat) (v6 : Nat) (v8 : Int) (v9 : Int) (v10 : Int) (M : xM), xZ oJ O (d + 69) 203 218 [(0, .ref v0), (6, .ref v6), (8, .int (yw v8)), (9, .int (yw v9)), (10, .int (yw v10))] [] M (f_Law_isPlanned_218 O f n v0 v6 v8 v9 v10 M) := by
  intro n
  induction n with
  | zero =>
    intro v0 v6 v8 v9 v10 M
    exact xZ.no
  | succ n ih =>
    intro v0 v6 v8 v9 v10 M
    unfold f_Law_isPlanned_218
    refine xZ.adv (me := xm203) hP_203 2 (pc' := 222) (lv' := [(0, .ref v0), (6, .ref v6), (8, .int (yw v8)), (9, .int (yw v9)), (10, .int (yw v10))]) (st' := [.ref v6, .int (yw v10)]) rfl ?_
    refine xZ.k_gJ (me := xm203) hP_203 rfl (fun x1 => ?_)
    refine xZ.jc_ge (me := xm203) hP_203 rfl (fun h1 => ?_) (fun h1 => ?_)
    · skip
      refine xZ.adv (me := xm203) hP_203 2 (pc' := 431) (lv' := [(0, .ref v0), (6, .ref v6), (8, .int (yw v8)), (9, .int (yw v9)), (10, .int (yw v10))]) (st' := [.int (yw v8), .int (yw v9)]) rfl ?_
      refine xZ.jc_eq (me := xm203) hP_203 rfl (fun h2 => ?_) (fun h2 => ?_)
      · skip
        refine xZ.adv (me := xm203) hP_203 3 (pc' := 441) (lv' := [(10, .int (0 : Int32)), (0, .ref v0), (6, .ref v6), (8, .int (yw v8)), (9, .int (yw v9))]) (st' := [.ref v6]) rfl ?_
        refine xZ.eqs (lv2 := [(10, .int (yw 0)), (0, .ref v0), (6, .ref v6), (8, .int (yw v8)), (9, .int (yw v9))]) (st2 := [.ref v6]) (by simp only [yl_lit, yL_lit, yw_add, yw_sub, yw_mul, yw_neg, yl_add, yl_sub, yl_mul, cj_and, cj_or, cj_xor, cj_shl, cj_shr, cj_ushr, cj_div, cj_i2c, cj_i2b, cj_dc, ck_and, ck_or, ck_xor, ck_shl, ck_shr, ck_ushr, ck_i2l, ck_l2i, ck_cmp]) rfl ?_
        refine xZ.k_gJ (me := xm203) hP_203 rfl (fun x2 => ?_)
        refine xZ.k_nAJ (me := xm203) hP_203 rfl rfl (by decide) (fun x3 M1 => ?_)
        refine xZ.adv (me := xm203) hP_203 3 (pc' := 451) (lv' := [(12, .int (0 : Int32)), (11, .ref x3), (10, .int (yw 0)), (0, .ref v0), (6, .ref v6), (8, .int (yw v8)), (9, .int (yw v9))]) (st' := []) rfl ?_
        refine xZ.eqs (lv2 := [(12, .int (yw 0)), (11, .ref x3), (10, .int (yw 0)), (0, .ref v0), (6, .ref v6), (8, .int (yw v8)), (9, .int (yw v9))]) (st2 := []) (by simp only [yl_lit, yL_lit, yw_add, yw_sub, yw_mul, yw_neg, yl_add, yl_sub, yl_mul, cj_and, cj_or, cj_xor, cj_shl, cj_shr, cj_ushr, cj_div, cj_i2c, cj_i2b, cj_dc, ck_and, ck_or, ck_xor, ck_shl, ck_shr, ck_ushr, ck_i2l, ck_l2i, ck_cmp]) rfl ?_
        exact xZ.sub (xsc (.tail _ (.tail _ (.tail _ (.head _)))) (xsc (.tail _ (.tail _ (.tail _ (.tail _ (.head _))))) (xsc (.tail _ (.tail _ (.head _))) (xsc (.tail _ (.head _)) (xsc (.head _) xsn))))) (show ([12, 11, 10, 0, 6, 8, 9] : List Nat).Nodup from by decide) (k_f_Law_isPlanned_451 O f d f v0 v6 0 x3 0 M1)
      · skip
        refine xZ.adv (me := xm203) hP_203 1 (pc' := 435) (lv' := [(0, .ref v0), (6, .ref v6), (8, .int (yw v8)), (9, .int (yw v9)), (10, .int (yw v10))]) (st' := [.int (0 : Int32)]) rfl ?_
        refine xZ.eqs (lv2 := [(0, .ref v0), (6, .ref v6), (8, .int (yw v8)), (9, .int (yw v9)), (10, .int (yw v10))]) (st2 := [.int (yw 0)]) rfl (by simp only [yl_lit, yL_lit, yw_add, yw_sub, yw_mul, yw_neg, yl_add, yl_sub, yl_mul, cj_and, cj_or, cj_xor, cj_shl, cj_shr, cj_ushr, cj_div, cj_i2c, cj_i2b, cj_dc, ck_and, ck_or, ck_xor, ck_shl, ck_shr, ck_ushr, ck_i2l, ck_l2i, ck_cmp]) ?_
        exact xZ.jrete (me := xm203) hP_203 rfl rfl rfl
    · skip
      refine xZ.adv (me := xm203) hP_203 3 (pc' := 232) (lv' := [(0, .ref v0), (6, .ref v6), (8, .int (yw v8)), (9, .int (yw v9)), (10, .int (yw v10))]) (st' := [.int (0 : Int32), .int (yw v10), .ref v0]) rfl ?_
      refine xZ.eqs (lv2 := [(0, .ref v0), (6, .ref v6), (8, .int (yw v8)), (9, .int (yw v9)), (10, .int (yw v10))]) (st2 := [.int (yw 0), .int (yw v10), .ref v0]) rfl (by simp only [yl_lit, yL_lit, yw_add, yw_sub, yw_mul, yw_neg, yl_add, yl_sub, yl_mul, cj_and, cj_or, cj_xor, cj_shl, cj_shr, cj_ushr, cj_div, cj_i2c, cj_i2b, cj_dc, ck_and, ck_or, ck_xor, ck_shl, ck_shr, ck_ushr, ck_i2l, ck_l2i, ck_cmp]) ?_
      refine xZ.callv (κ := oJ) (av := [.int (yw v10), .int (yw 0)]) (rest := []) (st' := fun x4 => [.int (yw x4)]) (k0 := v0) (me := xm203) hP_203 rfl (Or.inl rfl) ⟨rfl, by decide⟩ rfl rfl (Nat.le_of_ble_eq_true rfl) (by decide) hP_212 (Nat.le_of_ble_eq_true rfl) (fun _ => rfl) (k_f_Calendarhall_planAt O f (d + 66) v0 v10 0 M) (fun x4 M2 => ?_)
      refine xZ.adv (me := xm203) hP_203 1 (pc' := 237) (lv' := [(0, .ref v0), (6, .ref v6), (8, .int (yw v8)), (9, .int (yw v9)), (10, .int (yw v10))]) (st' := [.ref v6, .int (yw x4)]) rfl ?_
      refine xZ.k_gR (me := xm203) hP_203 rfl (fun x5 => ?_)
      refine xZ.adv (me := xm203) hP_203 1 (pc' := 242) (lv' := [(0, .ref v0), (6, .ref v6), (8, .int (yw v8)), (9, .int (yw v9)), (10, .int (yw v10))]) (st' := [.int (yw v10), .ref x5, .int (yw x4)]) rfl ?_
      refine xZ.k_aJ (me := xm203) hP_203 rfl (fun x6 => ?_)
      refine xZ.jc_ne (me := xm203) hP_203 rfl (fun h3 => ?_) (fun h3 => ?_)
      · skip
        refine xZ.adv (me := xm203) hP_203 3 (pc' := 250) (lv' := [(0, .ref v0), (6, .ref v6), (8, .int (yw v8)), (9, .int (yw v9)), (10, .int (yw v10))]) (st' := [.int (1 : Int32), .int (yw v10), .ref v0]) rfl ?_
        refine xZ.eqs (lv2 := [(0, .ref v0), (6, .ref v6), (8, .int (yw v8)), (9, .int (yw v9)), (10, .int (yw v10))]) (st2 := [.int (yw 1), .int (yw v10), .ref v0]) rfl (by simp only [yl_lit, yL_lit, yw_add, yw_sub, yw_mul, yw_neg, yl_add, yl_sub, yl_mul, cj_and, cj_or, cj_xor, cj_shl, cj_shr, cj_ushr, cj_div, cj_i2c, cj_i2b, cj_dc, ck_and, ck_or, ck_xor, ck_shl, ck_shr, ck_ushr, ck_i2l, ck_l2i, ck_cmp]) ?_
        refine xZ.callv (κ := oJ) (av := [.int (yw v10), .int (yw 1)]) (rest := []) (st' := fun x7 => [.int (yw x7)]) (k0 := v0) (me := xm203) hP_203 rfl (Or.inl rfl) ⟨rfl, by decide⟩ rfl rfl (Nat.le_of_ble_eq_true rfl) (by decide) hP_212 (Nat.le_of_ble_eq_true rfl) (fun _ => rfl) (k_f_Calendarhall_planAt O f (d + 66) v0 v10 1 M2) (fun x7 M3 => ?_)
        refine xZ.adv (me := xm203) hP_203 1 (pc' := 255) (lv' := [(0, .ref v0), (6, .ref v6), (8, .int (yw v8)), (9, .int (yw v9)), (10, .int (yw v10))]) (st' := [.ref v6, .int (yw x7)]) rfl ?_
        refine xZ.k_gR (me := xm203) hP_203 rfl (fun x8 => ?_)
        refine xZ.adv (me := xm203) hP_203 1 (pc' := 260) (lv' := [(0, .ref v0), (6, .ref v6), (8, .int (yw v8)), (9, .int (yw v9)), (10, .int (yw v10))]) (st' := [.int (yw v10), .ref x8, .int (yw x7)]) rfl ?_
        refine xZ.k_aJ (me := xm203) hP_203 rfl (fun x9 => ?_)
        refine xZ.jc_eq (me := xm203) hP_203 rfl (fun h4 => ?_) (fun h4 => ?_)
        · skip
          refine xZ.adv (me := xm203) hP_203 4 (pc' := 272) (lv' := [(0, .ref v0), (6, .ref v6), (8, .int (yw v8)), (9, .int (yw v9)), (10, .int (yw v10))]) (st' := [.int (2 : Int32), .int (yw v10), .ref v0, .int (yw v9)]) rfl ?_
          refine xZ.eqs (lv2 := [(0, .ref v0), (6, .ref v6), (8, .int (yw v8)), (9, .int (yw v9)), (10, .int (yw v10))]) (st2 := [.int (yw 2), .int (yw v10), .ref v0, .int (yw v9)]) rfl (by simp only [yl_lit, yL_lit, yw_add, yw_sub, yw_mul, yw_neg, yl_add, yl_sub, yl_mul, cj_and, cj_or, cj_xor, cj_shl, cj_shr, cj_ushr, cj_div, cj_i2c, cj_i2b, cj_dc, ck_and, ck_or, ck_xor, ck_shl, ck_shr, ck_ushr, ck_i2l, ck_l2i, ck_cmp]) ?_
          refine xZ.callv (κ := oJ) (av := [.int (yw v10), .int (yw 2)]) (rest := [.int (yw v9)]) (st' := fun x10 => [.int (yw x10), .int (yw v9)]) (k0 := v0) (me := xm203) hP_203 rfl (Or.inl rfl) ⟨rfl, by decide⟩ rfl rfl (Nat.le_of_ble_eq_true rfl) (by decide) hP_212 (Nat.le_of_ble_eq_true rfl) (fun _ => rfl) (k_f_Calendarhall_planAt O f (d + 66) v0 v10 2 M3) (fun x10 M4 => ?_)
          refine xZ.adv (me := xm203) hP_203 1 (pc' := 277) (lv' := [(0, .ref v0), (6, .ref v6), (8, .int (yw v8)), (9, .int (yw v9)), (10, .int (yw v10))]) (st' := [.ref v6, .int (yw x10), .int (yw v9)]) rfl ?_
          refine xZ.k_gR (me := xm203) hP_203 rfl (fun x11 => ?_)
          refine xZ.adv (me := xm203) hP_203 1 (pc' := 282) (lv' := [(0, .ref v0), (6, .ref v6), (8, .int (yw v8)), (9, .int (yw v9)), (10, .int (yw v10))]) (st' := [.int (yw v10), .ref x11, .int (yw x10), .int (yw v9)]) rfl ?_
          refine xZ.k_aJ (me := xm203) hP_203 rfl (fun x12 => ?_)
          refine xZ.adv (me := xm203) hP_203 1 (pc' := 284) (lv' := [(0, .ref v0), (6, .ref v6), (8, .int (yw v8)), (9, .int (yw v9)), (10, .int (yw v10))]) (st' := [.int ((yw x10) - (yw x12)), .int (yw v9)]) rfl ?_
          refine xZ.eqs (lv2 := [(0, .ref v0), (6, .ref v6), (8, .int (yw v8)), (9, .int (yw v9)), (10, .int (yw v10))]) (st2 := [.int (yw (x10 - x12)), .int (yw v9)]) rfl (by simp only [yl_lit, yL_lit, yw_add, yw_sub, yw_mul, yw_neg, yl_add, yl_sub, yl_mul, cj_and, cj_or, cj_xor, cj_shl, cj_shr, cj_ushr, cj_div, cj_i2c, cj_i2b, cj_dc, ck_and, ck_or, ck_xor, ck_shl, ck_shr, ck_ushr, ck_i2l, ck_l2i, ck_cmp]) ?_
          refine xZ.calls (κ := oJ) (av := [.int (yw (x10 - x12))]) (rest := [.int (yw v9)]) (st' := fun x13 => [.int (yw x13), .int (yw v9)]) (me := xm203) hP_203 rfl rfl rfl (Nat.le_of_ble_eq_true rfl) (by decide) hP_249 (Nat.le_of_ble_eq_true rfl) (fun _ => rfl) (k_f_Math_abs O f (d + 68) (x10 - x12) M4) (fun x13 M5 => ?_)
          refine xZ.adv (me := xm203) hP_203 4 (pc' := 293) (lv' := [(11, .int (0 : Int32)), (9, .int ((yw v9) + (yw x13))), (0, .ref v0), (6, .ref v6), (8, .int (yw v8)), (10, .int (yw v10))]) (st' := []) rfl ?_
          refine xZ.eqs (lv2 := [(11, .int (yw 0)), (9, .int (yw (v9 + x13))), (0, .ref v0), (6, .ref v6), (8, .int (yw v8)), (10, .int (yw v10))]) (st2 := []) (by simp only [yl_lit, yL_lit, yw_add, yw_sub, yw_mul, yw_neg, yl_add, yl_sub, yl_mul, cj_and, cj_or, cj_xor, cj_shl, cj_shr, cj_ushr, cj_div, cj_i2c, cj_i2b, cj_dc, ck_and, ck_or, ck_xor, ck_shl, ck_shr, ck_ushr, ck_i2l, ck_l2i, ck_cmp]) rfl ?_
          exact xZ.sub (xsc (.tail _ (.tail _ (.head _))) (xsc (.tail _ (.tail _ (.tail _ (.head _)))) (xsc (.tail _ (.tail _ (.tail _ (.tail _ (.head _))))) (xsc (.tail _ (.head _)) (xsc (.tail _ (.tail _ (.tail _ (.tail _ (.tail _ (.head _)))))) (xsc (.head _) xsn)))))) (show ([11, 9, 0, 6, 8, 10] : List Nat).Nodup from by decide) (k_f_Law_isPlanned_293 O f d (f_Law_isPlanned_218 O f n) ih f v0 v6 v8 (v9 + x13) v10 0 M5)
        · skip
          refine xZ.adv (me := xm203) hP_203 1 (pc' := 265) (lv' := [(0, .ref v0), (6, .ref v6), (8, .int (yw v8)), (9, .int (yw v9)), (10, .int (yw v10))]) (st' := [.int (0 : Int32)]) rfl ?_
          refine xZ.eqs (lv2 := [(0, .ref v0), (6, .ref v6), (8, .int (yw v8)), (9, .int (yw v9)), (10, .int (yw v10))]) (st2 := [.int (yw 0)]) rfl (by simp only [yl_lit, yL_lit, yw_add, yw_sub, yw_mul, yw_neg, yl_add, yl_sub, yl_mul, cj_and, cj_or, cj_xor, cj_shl, cj_shr, cj_ushr, cj_div, cj_i2c, cj_i2b, cj_dc, ck_and, ck_or, ck_xor, ck_shl, ck_shr, ck_ushr, ck_i2l, ck_l2i, ck_cmp]) ?_
          exact xZ.jrete (me := xm203) hP_203 rfl rfl rfl
      · skip
        refine xZ.adv (me := xm203) hP_203 1 (pc' := 265) (lv' := [(0, .ref v0), (6, .ref v6), (8, .int (yw v8)), (9, .int (yw v9)), (10, .int (yw v10))]) (st' := [.int (0 : Int32)]) rfl ?_
        refine xZ.eqs (lv2 := [(0, .ref v0), (6, .ref v6), (8, .int (yw v8)), (9, .int (yw v9)), (10, .int (yw v10))]) (st2 := [.int (yw 0)]) rfl (by simp only [yl_lit, yL_lit, yw_add, yw_sub, yw_mul, yw_neg, yl_add, yl_sub, yl_mul, cj_and, cj_or, cj_xor, cj_shl, cj_shr, cj_ushr, cj_div, cj_i2c, cj_i2b, cj_dc, ck_and, ck_or, ck_xor, ck_shl, ck_shr, ck_ushr, ck_i2l, ck_l2i, ck_cmp]) ?_
        exact xZ.jrete (me := xm203) hP_203 rfl rfl rfl
def f_Law_isPlanned_22 (O : Nat → Option va_E) (f : Nat) : Nat → Nat → Nat → Int → Int → Int → xM → Option (Int × xM)
  | 0, _, _, _, _, _, _ => none
  | n + 1, v0, v1, v2, v3, v4, M =>
    if yw v3 ≤ yw v4 then (
      (isO O M v1 15).bind fun _ =>
      xcl (f_LDraw_n O f v1 9 M) fun x1 M1 =>
      (isO O M1 v1 15).bind fun _ =>
      xcl (f_LDraw_n O f v1 10 M1) fun x2 M2 =>
      xlet (((1440 * v2) + 700) + (60 * x2)) fun x3 =>
      if yw ((1440 * v2) + (60 * x1)) < yw x3 then (
        xcl (nO M2 13) fun x4 M3 =>
        xcl (f_LDates_ctor O f x4 v0 v3 ((1440 * v2) + (60 * x1)) x3 M3) fun _ M4 =>
        (gJ O M4 x4 13 4).bind fun x6 =>
        xcl (nAJ M4 0 x6) fun x7 M5 =>
        xcl (f_Law_least O f 64 v0 x4 x7 0 ((1440 * v2) + (60 * x1)) x3 M5) fun x8 M6 =>
        (isO O M6 v0 12).bind fun _ =>
        xcl (f_Calendarhall_plan O f v0 4095 ((1440 * v2) + (60 * x1)) x3 M6) fun x9 M7 =>
        if yw x9 = yw x8 then (
          if yw x9 = yw (-1) then (
            some (1, M7)
          ) else
          f_Law_isPlanned_218 O f f v0 x4 x9 0 0 M7
        ) else
        some (0, M7)
      ) else
      some (1, M2)
    ) else
    (isO O M v1 15).bind fun _ =>
    xcl (f_LDraw_n O f v1 6 M) fun x10 M8 =>
    (isO O M8 v1 15).bind fun _ =>
    xcl (f_LDraw_n O f v1 4 M8) fun x11 M9 =>
    (isO O M9 v1 15).bind fun _ =>
    xcl (f_LDraw_n O f v1 7 M9) fun x12 M10 =>
    (isO O M10 v0 12).bind fun _ =>
    xcl (f_Calendarhall_addSeries O f v0 0 v2 (540 + (30 * x10)) (30 + (30 * x11)) (1 + x12) 0 M10) fun x13 M11 =>
    (isO O M11 v1 15).bind fun _ =>
    xcl (f_LDraw_is O f v1 4 M11) fun x14 M12 =>
    if yw x14 = yw 0 then (
      f_Law_isPlanned_22 O f n v0 v1 v2 v3 (v4 + 1) M12
    ) else
    (isO O M12 v0 12).bind fun _ =>
    xcl (f_Calendarhall_seriesAt O f v0 v4 4 M12) fun x15 M13 =>
    xcl (f_Integer_numberOfTrailingZeros O f x15 M13) fun x16 M14 =>
    (isO O M14 v0 12).bind fun _ =>
    xcl (f_Calendarhall_answer O f v0 v4 x16 2 M14) fun x17 M15 =>
    f_Law_isPlanned_22 O f n v0 v1 v2 v3 (v4 + 1) M15
set_option maxRecDepth 20000 in
theorem k_f_Law_isPlanned_22 (O : Nat → Option va_E) (f d : Nat) : ∀ (n : Nat) (v0 : Nat) (v1 : Nat) (v2 : Int) (v3 : Int) (v4 : Int) (M : xM), xZ oJ O (d + 69) 203 22 [(0, .ref v0), (1, .ref v1), (2, .int (yw v2)), (3, .int (yw v3)), (4, .int (yw v4))] [] M (f_Law_isPlanned_22 O f n v0 v1 v2 v3 v4 M) := by
  intro n
  induction n with
  | zero =>
    intro v0 v1 v2 v3 v4 M
    exact xZ.no
  | succ n ih =>
    intro v0 v1 v2 v3 v4 M
    unfold f_Law_isPlanned_22
    refine xZ.adv (me := xm203) hP_203 2 (pc' := 25) (lv' := [(0, .ref v0), (1, .ref v1), (2, .int (yw v2)), (3, .int (yw v3)), (4, .int (yw v4))]) (st' := [.int (yw v3), .int (yw v4)]) rfl ?_
    refine xZ.jc_ge (me := xm203) hP_203 rfl (fun h1 => ?_) (fun h1 => ?_)
    · skip
      refine xZ.adv (me := xm203) hP_203 6 (pc' := 110) (lv' := [(0, .ref v0), (1, .ref v1), (2, .int (yw v2)), (3, .int (yw v3)), (4, .int (yw v4))]) (st' := [.int (9 : Int32), .ref v1, .int (60 : Int32), .int ((1440 : Int32) * (yw v2))]) rfl ?_
      refine xZ.eqs (lv2 := [(0, .ref v0), (1, .ref v1), (2, .int (yw v2)), (3, .int (yw v3)), (4, .int (yw v4))]) (st2 := [.int (yw 9), .ref v1, .int (yw 60), .int (yw (1440 * v2))]) rfl (by simp only [yl_lit, yL_lit, yw_add, yw_sub, yw_mul, yw_neg, yl_add, yl_sub, yl_mul, cj_and, cj_or, cj_xor, cj_shl, cj_shr, cj_ushr, cj_div, cj_i2c, cj_i2b, cj_dc, ck_and, ck_or, ck_xor, ck_shl, ck_shr, ck_ushr, ck_i2l, ck_l2i, ck_cmp]) ?_
      refine xZ.callv (κ := oJ) (av := [.int (yw 9)]) (rest := [.int (yw 60), .int (yw (1440 * v2))]) (st' := fun x1 => [.int (yw x1), .int (yw 60), .int (yw (1440 * v2))]) (k0 := v1) (me := xm203) hP_203 rfl (Or.inl rfl) ⟨rfl, by decide⟩ rfl rfl (Nat.le_of_ble_eq_true rfl) (by decide) hP_12 (Nat.le_of_ble_eq_true rfl) (fun _ => rfl) (k_f_LDraw_n O f (d + 68) v1 9 M) (fun x1 M1 => ?_)
      refine xZ.adv (me := xm203) hP_203 11 (pc' := 131) (lv' := [(4, .int ((yw (1440 * v2)) + ((yw 60) * (yw x1)))), (0, .ref v0), (1, .ref v1), (2, .int (yw v2)), (3, .int (yw v3))]) (st' := [.int (10 : Int32), .ref v1, .int (60 : Int32), .int (((1440 : Int32) * (yw v2)) + (700 : Int32))]) rfl ?_
      refine xZ.eqs (lv2 := [(4, .int (yw ((1440 * v2) + (60 * x1)))), (0, .ref v0), (1, .ref v1), (2, .int (yw v2)), (3, .int (yw v3))]) (st2 := [.int (yw 10), .ref v1, .int (yw 60), .int (yw ((1440 * v2) + 700))]) (by simp only [yl_lit, yL_lit, yw_add, yw_sub, yw_mul, yw_neg, yl_add, yl_sub, yl_mul, cj_and, cj_or, cj_xor, cj_shl, cj_shr, cj_ushr, cj_div, cj_i2c, cj_i2b, cj_dc, ck_and, ck_or, ck_xor, ck_shl, ck_shr, ck_ushr, ck_i2l, ck_l2i, ck_cmp]) (by simp only [yl_lit, yL_lit, yw_add, yw_sub, yw_mul, yw_neg, yl_add, yl_sub, yl_mul, cj_and, cj_or, cj_xor, cj_shl, cj_shr, cj_ushr, cj_div, cj_i2c, cj_i2b, cj_dc, ck_and, ck_or, ck_xor, ck_shl, ck_shr, ck_ushr, ck_i2l, ck_l2i, ck_cmp]) ?_
      refine xZ.callv (κ := oJ) (av := [.int (yw 10)]) (rest := [.int (yw 60), .int (yw ((1440 * v2) + 700))]) (st' := fun x2 => [.int (yw x2), .int (yw 60), .int (yw ((1440 * v2) + 700))]) (k0 := v1) (me := xm203) hP_203 rfl (Or.inl rfl) ⟨rfl, by decide⟩ rfl rfl (Nat.le_of_ble_eq_true rfl) (by decide) hP_12 (Nat.le_of_ble_eq_true rfl) (fun _ => rfl) (k_f_LDraw_n O f (d + 68) v1 10 M1) (fun x2 M2 => ?_)
      refine xZ.adv (me := xm203) hP_203 3 (pc' := 138) (lv' := [(5, .int ((yw ((1440 * v2) + 700)) + ((yw 60) * (yw x2)))), (4, .int (yw ((1440 * v2) + (60 * x1)))), (0, .ref v0), (1, .ref v1), (2, .int (yw v2)), (3, .int (yw v3))]) (st' := []) rfl ?_
      refine xZ.eqs (lv2 := [(5, .int (yw (((1440 * v2) + 700) + (60 * x2)))), (4, .int (yw ((1440 * v2) + (60 * x1)))), (0, .ref v0), (1, .ref v1), (2, .int (yw v2)), (3, .int (yw v3))]) (st2 := []) (by simp only [yl_lit, yL_lit, yw_add, yw_sub, yw_mul, yw_neg, yl_add, yl_sub, yl_mul, cj_and, cj_or, cj_xor, cj_shl, cj_shr, cj_ushr, cj_div, cj_i2c, cj_i2b, cj_dc, ck_and, ck_or, ck_xor, ck_shl, ck_shr, ck_ushr, ck_i2l, ck_l2i, ck_cmp]) rfl ?_
      refine xZ.letI (v := (((1440 * v2) + 700) + (60 * x2))) (lvf := fun x3 => [(5, .int (yw x3)), (4, .int (yw ((1440 * v2) + (60 * x1)))), (0, .ref v0), (1, .ref v1), (2, .int (yw v2)), (3, .int (yw v3))]) (stf := fun x3 => []) ?_
      intro x3
      refine xZ.adv (me := xm203) hP_203 2 (pc' := 142) (lv' := [(5, .int (yw x3)), (4, .int (yw ((1440 * v2) + (60 * x1)))), (0, .ref v0), (1, .ref v1), (2, .int (yw v2)), (3, .int (yw v3))]) (st' := [.int (yw ((1440 * v2) + (60 * x1))), .int (yw x3)]) rfl ?_
      refine xZ.jc_gt (me := xm203) hP_203 rfl (fun h2 => ?_) (fun h2 => ?_)
      · skip
        refine xZ.k_nO (me := xm203) hP_203 rfl rfl (fun x4 M3 => ?_)
        refine xZ.adv (me := xm203) hP_203 5 (pc' := 157) (lv' := [(5, .int (yw x3)), (4, .int (yw ((1440 * v2) + (60 * x1)))), (0, .ref v0), (1, .ref v1), (2, .int (yw v2)), (3, .int (yw v3))]) (st' := [.int (yw x3), .int (yw ((1440 * v2) + (60 * x1))), .int (yw v3), .ref v0, .ref x4, .ref x4]) rfl ?_
        refine xZ.calli (κ := oU) (av := [.ref v0, .int (yw v3), .int (yw ((1440 * v2) + (60 * x1))), .int (yw x3)]) (rest := [.ref x4]) (st' := fun _ => [.ref x4]) (k0 := x4) (me := xm203) hP_203 rfl (Or.inl rfl) rfl rfl (Nat.le_of_ble_eq_true rfl) (by decide) hP_152 (Nat.le_of_ble_eq_true rfl) (fun _ => rfl) (k_f_LDates_ctor O f (d + 62) x4 v0 v3 ((1440 * v2) + (60 * x1)) x3 M3) (fun _ M4 => ?_)
        refine xZ.adv (me := xm203) hP_203 4 (pc' := 167) (lv' := [(6, .ref x4), (5, .int (yw x3)), (4, .int (yw ((1440 * v2) + (60 * x1)))), (0, .ref v0), (1, .ref v1), (2, .int (yw v2)), (3, .int (yw v3))]) (st' := [.ref x4, .ref x4, .ref v0]) rfl ?_
        refine xZ.k_gJ (me := xm203) hP_203 rfl (fun x6 => ?_)
        refine xZ.k_nAJ (me := xm203) hP_203 rfl rfl (by decide) (fun x7 M5 => ?_)
        refine xZ.adv (me := xm203) hP_203 3 (pc' := 177) (lv' := [(6, .ref x4), (5, .int (yw x3)), (4, .int (yw ((1440 * v2) + (60 * x1)))), (0, .ref v0), (1, .ref v1), (2, .int (yw v2)), (3, .int (yw v3))]) (st' := [.int (yw x3), .int (yw ((1440 * v2) + (60 * x1))), .int (0 : Int32), .ref x7, .ref x4, .ref v0]) rfl ?_
        refine xZ.eqs (lv2 := [(6, .ref x4), (5, .int (yw x3)), (4, .int (yw ((1440 * v2) + (60 * x1)))), (0, .ref v0), (1, .ref v1), (2, .int (yw v2)), (3, .int (yw v3))]) (st2 := [.int (yw x3), .int (yw ((1440 * v2) + (60 * x1))), .int (yw 0), .ref x7, .ref x4, .ref v0]) rfl (by simp only [yl_lit, yL_lit, yw_add, yw_sub, yw_mul, yw_neg, yl_add, yl_sub, yl_mul, cj_and, cj_or, cj_xor, cj_shl, cj_shr, cj_ushr, cj_div, cj_i2c, cj_i2b, cj_dc, ck_and, ck_or, ck_xor, ck_shl, ck_shr, ck_ushr, ck_i2l, ck_l2i, ck_cmp]) ?_
        refine xZ.calls (κ := oJ) (av := [.ref v0, .ref x4, .ref x7, .int (yw 0), .int (yw ((1440 * v2) + (60 * x1))), .int (yw x3)]) (rest := []) (st' := fun x8 => [.int (yw x8)]) (me := xm203) hP_203 rfl rfl rfl (Nat.le_of_ble_eq_true rfl) (by decide) hP_204 (Nat.le_of_ble_eq_true rfl) (fun _ => rfl) (xZ.deep (k_f_Law_least O f 64 0 v0 x4 x7 0 ((1440 * v2) + (60 * x1)) x3 M5) (by omega)) (fun x8 M6 => ?_)
        refine xZ.adv (me := xm203) hP_203 5 (pc' := 190) (lv' := [(7, .int (yw x8)), (6, .ref x4), (5, .int (yw x3)), (4, .int (yw ((1440 * v2) + (60 * x1)))), (0, .ref v0), (1, .ref v1), (2, .int (yw v2)), (3, .int (yw v3))]) (st' := [.int (yw x3), .int (yw ((1440 * v2) + (60 * x1))), .int (4095 : Int32), .ref v0]) rfl ?_
        refine xZ.eqs (lv2 := [(7, .int (yw x8)), (6, .ref x4), (5, .int (yw x3)), (4, .int (yw ((1440 * v2) + (60 * x1)))), (0, .ref v0), (1, .ref v1), (2, .int (yw v2)), (3, .int (yw v3))]) (st2 := [.int (yw x3), .int (yw ((1440 * v2) + (60 * x1))), .int (yw 4095), .ref v0]) rfl (by simp only [yl_lit, yL_lit, yw_add, yw_sub, yw_mul, yw_neg, yl_add, yl_sub, yl_mul, cj_and, cj_or, cj_xor, cj_shl, cj_shr, cj_ushr, cj_div, cj_i2c, cj_i2b, cj_dc, ck_and, ck_or, ck_xor, ck_shl, ck_shr, ck_ushr, ck_i2l, ck_l2i, ck_cmp]) ?_
        refine xZ.callv (κ := oJ) (av := [.int (yw 4095), .int (yw ((1440 * v2) + (60 * x1))), .int (yw x3)]) (rest := []) (st' := fun x9 => [.int (yw x9)]) (k0 := v0) (me := xm203) hP_203 rfl (Or.inl rfl) ⟨rfl, by decide⟩ rfl rfl (Nat.le_of_ble_eq_true rfl) (by decide) hP_205 (Nat.le_of_ble_eq_true rfl) (fun _ => rfl) (k_f_Calendarhall_plan O f (d + 61) v0 4095 ((1440 * v2) + (60 * x1)) x3 M6) (fun x9 M7 => ?_)
        refine xZ.adv (me := xm203) hP_203 3 (pc' := 199) (lv' := [(8, .int (yw x9)), (7, .int (yw x8)), (6, .ref x4), (5, .int (yw x3)), (4, .int (yw ((1440 * v2) + (60 * x1)))), (0, .ref v0), (1, .ref v1), (2, .int (yw v2)), (3, .int (yw v3))]) (st' := [.int (yw x8), .int (yw x9)]) rfl ?_
        refine xZ.jc_eq (me := xm203) hP_203 rfl (fun h3 => ?_) (fun h3 => ?_)
        · skip
          refine xZ.adv (me := xm203) hP_203 2 (pc' := 207) (lv' := [(8, .int (yw x9)), (7, .int (yw x8)), (6, .ref x4), (5, .int (yw x3)), (4, .int (yw ((1440 * v2) + (60 * x1)))), (0, .ref v0), (1, .ref v1), (2, .int (yw v2)), (3, .int (yw v3))]) (st' := [.int (-1 : Int32), .int (yw x9)]) rfl ?_
          refine xZ.eqs (lv2 := [(8, .int (yw x9)), (7, .int (yw x8)), (6, .ref x4), (5, .int (yw x3)), (4, .int (yw ((1440 * v2) + (60 * x1)))), (0, .ref v0), (1, .ref v1), (2, .int (yw v2)), (3, .int (yw v3))]) (st2 := [.int (yw (-1)), .int (yw x9)]) rfl (by simp only [yl_lit, yL_lit, yw_add, yw_sub, yw_mul, yw_neg, yl_add, yl_sub, yl_mul, cj_and, cj_or, cj_xor, cj_shl, cj_shr, cj_ushr, cj_div, cj_i2c, cj_i2b, cj_dc, ck_and, ck_or, ck_xor, ck_shl, ck_shr, ck_ushr, ck_i2l, ck_l2i, ck_cmp]) ?_
          refine xZ.jc_ne (me := xm203) hP_203 rfl (fun h4 => ?_) (fun h4 => ?_)
          · skip
            refine xZ.adv (me := xm203) hP_203 1 (pc' := 211) (lv' := [(8, .int (yw x9)), (7, .int (yw x8)), (6, .ref x4), (5, .int (yw x3)), (4, .int (yw ((1440 * v2) + (60 * x1)))), (0, .ref v0), (1, .ref v1), (2, .int (yw v2)), (3, .int (yw v3))]) (st' := [.int (1 : Int32)]) rfl ?_
            refine xZ.eqs (lv2 := [(8, .int (yw x9)), (7, .int (yw x8)), (6, .ref x4), (5, .int (yw x3)), (4, .int (yw ((1440 * v2) + (60 * x1)))), (0, .ref v0), (1, .ref v1), (2, .int (yw v2)), (3, .int (yw v3))]) (st2 := [.int (yw 1)]) rfl (by simp only [yl_lit, yL_lit, yw_add, yw_sub, yw_mul, yw_neg, yl_add, yl_sub, yl_mul, cj_and, cj_or, cj_xor, cj_shl, cj_shr, cj_ushr, cj_div, cj_i2c, cj_i2b, cj_dc, ck_and, ck_or, ck_xor, ck_shl, ck_shr, ck_ushr, ck_i2l, ck_l2i, ck_cmp]) ?_
            exact xZ.jrete (me := xm203) hP_203 rfl rfl rfl
          · skip
            refine xZ.adv (me := xm203) hP_203 4 (pc' := 218) (lv' := [(10, .int (0 : Int32)), (9, .int (0 : Int32)), (8, .int (yw x9)), (7, .int (yw x8)), (6, .ref x4), (5, .int (yw x3)), (4, .int (yw ((1440 * v2) + (60 * x1)))), (0, .ref v0), (1, .ref v1), (2, .int (yw v2)), (3, .int (yw v3))]) (st' := []) rfl ?_
            refine xZ.eqs (lv2 := [(10, .int (yw 0)), (9, .int (yw 0)), (8, .int (yw x9)), (7, .int (yw x8)), (6, .ref x4), (5, .int (yw x3)), (4, .int (yw ((1440 * v2) + (60 * x1)))), (0, .ref v0), (1, .ref v1), (2, .int (yw v2)), (3, .int (yw v3))]) (st2 := []) (by simp only [yl_lit, yL_lit, yw_add, yw_sub, yw_mul, yw_neg, yl_add, yl_sub, yl_mul, cj_and, cj_or, cj_xor, cj_shl, cj_shr, cj_ushr, cj_div, cj_i2c, cj_i2b, cj_dc, ck_and, ck_or, ck_xor, ck_shl, ck_shr, ck_ushr, ck_i2l, ck_l2i, ck_cmp]) rfl ?_
            exact xZ.sub (xsc (.tail _ (.tail _ (.tail _ (.tail _ (.tail _ (.tail _ (.tail _ (.head _)))))))) (xsc (.tail _ (.tail _ (.tail _ (.tail _ (.head _))))) (xsc (.tail _ (.tail _ (.head _))) (xsc (.tail _ (.head _)) (xsc (.head _) xsn))))) (show ([10, 9, 8, 7, 6, 5, 4, 0, 1, 2, 3] : List Nat).Nodup from by decide) (k_f_Law_isPlanned_218 O f d f v0 x4 x9 0 0 M7)
        · skip
          refine xZ.adv (me := xm203) hP_203 1 (pc' := 203) (lv' := [(8, .int (yw x9)), (7, .int (yw x8)), (6, .ref x4), (5, .int (yw x3)), (4, .int (yw ((1440 * v2) + (60 * x1)))), (0, .ref v0), (1, .ref v1), (2, .int (yw v2)), (3, .int (yw v3))]) (st' := [.int (0 : Int32)]) rfl ?_
          refine xZ.eqs (lv2 := [(8, .int (yw x9)), (7, .int (yw x8)), (6, .ref x4), (5, .int (yw x3)), (4, .int (yw ((1440 * v2) + (60 * x1)))), (0, .ref v0), (1, .ref v1), (2, .int (yw v2)), (3, .int (yw v3))]) (st2 := [.int (yw 0)]) rfl (by simp only [yl_lit, yL_lit, yw_add, yw_sub, yw_mul, yw_neg, yl_add, yl_sub, yl_mul, cj_and, cj_or, cj_xor, cj_shl, cj_shr, cj_ushr, cj_div, cj_i2c, cj_i2b, cj_dc, ck_and, ck_or, ck_xor, ck_shl, ck_shr, ck_ushr, ck_i2l, ck_l2i, ck_cmp]) ?_
          exact xZ.jrete (me := xm203) hP_203 rfl rfl rfl
      · skip
        refine xZ.adv (me := xm203) hP_203 1 (pc' := 146) (lv' := [(5, .int (yw x3)), (4, .int (yw ((1440 * v2) + (60 * x1)))), (0, .ref v0), (1, .ref v1), (2, .int (yw v2)), (3, .int (yw v3))]) (st' := [.int (1 : Int32)]) rfl ?_
        refine xZ.eqs (lv2 := [(5, .int (yw x3)), (4, .int (yw ((1440 * v2) + (60 * x1)))), (0, .ref v0), (1, .ref v1), (2, .int (yw v2)), (3, .int (yw v3))]) (st2 := [.int (yw 1)]) rfl (by simp only [yl_lit, yL_lit, yw_add, yw_sub, yw_mul, yw_neg, yl_add, yl_sub, yl_mul, cj_and, cj_or, cj_xor, cj_shl, cj_shr, cj_ushr, cj_div, cj_i2c, cj_i2b, cj_dc, ck_and, ck_or, ck_xor, ck_shl, ck_shr, ck_ushr, ck_i2l, ck_l2i, ck_cmp]) ?_
        exact xZ.jrete (me := xm203) hP_203 rfl rfl rfl
    · skip
      refine xZ.adv (me := xm203) hP_203 7 (pc' := 39) (lv' := [(0, .ref v0), (1, .ref v1), (2, .int (yw v2)), (3, .int (yw v3)), (4, .int (yw v4))]) (st' := [.int (6 : Int32), .ref v1, .int (30 : Int32), .int (540 : Int32), .int (yw v2), .int (0 : Int32), .ref v0]) rfl ?_
      refine xZ.eqs (lv2 := [(0, .ref v0), (1, .ref v1), (2, .int (yw v2)), (3, .int (yw v3)), (4, .int (yw v4))]) (st2 := [.int (yw 6), .ref v1, .int (yw 30), .int (yw 540), .int (yw v2), .int (yw 0), .ref v0]) rfl (by simp only [yl_lit, yL_lit, yw_add, yw_sub, yw_mul, yw_neg, yl_add, yl_sub, yl_mul, cj_and, cj_or, cj_xor, cj_shl, cj_shr, cj_ushr, cj_div, cj_i2c, cj_i2b, cj_dc, ck_and, ck_or, ck_xor, ck_shl, ck_shr, ck_ushr, ck_i2l, ck_l2i, ck_cmp]) ?_
      refine xZ.callv (κ := oJ) (av := [.int (yw 6)]) (rest := [.int (yw 30), .int (yw 540), .int (yw v2), .int (yw 0), .ref v0]) (st' := fun x10 => [.int (yw x10), .int (yw 30), .int (yw 540), .int (yw v2), .int (yw 0), .ref v0]) (k0 := v1) (me := xm203) hP_203 rfl (Or.inl rfl) ⟨rfl, by decide⟩ rfl rfl (Nat.le_of_ble_eq_true rfl) (by decide) hP_12 (Nat.le_of_ble_eq_true rfl) (fun _ => rfl) (k_f_LDraw_n O f (d + 68) v1 6 M) (fun x10 M8 => ?_)
      refine xZ.adv (me := xm203) hP_203 6 (pc' := 50) (lv' := [(0, .ref v0), (1, .ref v1), (2, .int (yw v2)), (3, .int (yw v3)), (4, .int (yw v4))]) (st' := [.int (4 : Int32), .ref v1, .int (30 : Int32), .int (30 : Int32), .int ((yw 540) + ((yw 30) * (yw x10))), .int (yw v2), .int (yw 0), .ref v0]) rfl ?_
      refine xZ.eqs (lv2 := [(0, .ref v0), (1, .ref v1), (2, .int (yw v2)), (3, .int (yw v3)), (4, .int (yw v4))]) (st2 := [.int (yw 4), .ref v1, .int (yw 30), .int (yw 30), .int (yw (540 + (30 * x10))), .int (yw v2), .int (yw 0), .ref v0]) rfl (by simp only [yl_lit, yL_lit, yw_add, yw_sub, yw_mul, yw_neg, yl_add, yl_sub, yl_mul, cj_and, cj_or, cj_xor, cj_shl, cj_shr, cj_ushr, cj_div, cj_i2c, cj_i2b, cj_dc, ck_and, ck_or, ck_xor, ck_shl, ck_shr, ck_ushr, ck_i2l, ck_l2i, ck_cmp]) ?_
      refine xZ.callv (κ := oJ) (av := [.int (yw 4)]) (rest := [.int (yw 30), .int (yw 30), .int (yw (540 + (30 * x10))), .int (yw v2), .int (yw 0), .ref v0]) (st' := fun x11 => [.int (yw x11), .int (yw 30), .int (yw 30), .int (yw (540 + (30 * x10))), .int (yw v2), .int (yw 0), .ref v0]) (k0 := v1) (me := xm203) hP_203 rfl (Or.inl rfl) ⟨rfl, by decide⟩ rfl rfl (Nat.le_of_ble_eq_true rfl) (by decide) hP_12 (Nat.le_of_ble_eq_true rfl) (fun _ => rfl) (k_f_LDraw_n O f (d + 68) v1 4 M8) (fun x11 M9 => ?_)
      refine xZ.adv (me := xm203) hP_203 5 (pc' := 59) (lv' := [(0, .ref v0), (1, .ref v1), (2, .int (yw v2)), (3, .int (yw v3)), (4, .int (yw v4))]) (st' := [.int (7 : Int32), .ref v1, .int (1 : Int32), .int ((yw 30) + ((yw 30) * (yw x11))), .int (yw (540 + (30 * x10))), .int (yw v2), .int (yw 0), .ref v0]) rfl ?_
      refine xZ.eqs (lv2 := [(0, .ref v0), (1, .ref v1), (2, .int (yw v2)), (3, .int (yw v3)), (4, .int (yw v4))]) (st2 := [.int (yw 7), .ref v1, .int (yw 1), .int (yw (30 + (30 * x11))), .int (yw (540 + (30 * x10))), .int (yw v2), .int (yw 0), .ref v0]) rfl (by simp only [yl_lit, yL_lit, yw_add, yw_sub, yw_mul, yw_neg, yl_add, yl_sub, yl_mul, cj_and, cj_or, cj_xor, cj_shl, cj_shr, cj_ushr, cj_div, cj_i2c, cj_i2b, cj_dc, ck_and, ck_or, ck_xor, ck_shl, ck_shr, ck_ushr, ck_i2l, ck_l2i, ck_cmp]) ?_
      refine xZ.callv (κ := oJ) (av := [.int (yw 7)]) (rest := [.int (yw 1), .int (yw (30 + (30 * x11))), .int (yw (540 + (30 * x10))), .int (yw v2), .int (yw 0), .ref v0]) (st' := fun x12 => [.int (yw x12), .int (yw 1), .int (yw (30 + (30 * x11))), .int (yw (540 + (30 * x10))), .int (yw v2), .int (yw 0), .ref v0]) (k0 := v1) (me := xm203) hP_203 rfl (Or.inl rfl) ⟨rfl, by decide⟩ rfl rfl (Nat.le_of_ble_eq_true rfl) (by decide) hP_12 (Nat.le_of_ble_eq_true rfl) (fun _ => rfl) (k_f_LDraw_n O f (d + 68) v1 7 M9) (fun x12 M10 => ?_)
      refine xZ.adv (me := xm203) hP_203 2 (pc' := 64) (lv' := [(0, .ref v0), (1, .ref v1), (2, .int (yw v2)), (3, .int (yw v3)), (4, .int (yw v4))]) (st' := [.int (0 : Int32), .int ((yw 1) + (yw x12)), .int (yw (30 + (30 * x11))), .int (yw (540 + (30 * x10))), .int (yw v2), .int (yw 0), .ref v0]) rfl ?_
      refine xZ.eqs (lv2 := [(0, .ref v0), (1, .ref v1), (2, .int (yw v2)), (3, .int (yw v3)), (4, .int (yw v4))]) (st2 := [.int (yw 0), .int (yw (1 + x12)), .int (yw (30 + (30 * x11))), .int (yw (540 + (30 * x10))), .int (yw v2), .int (yw 0), .ref v0]) rfl (by simp only [yl_lit, yL_lit, yw_add, yw_sub, yw_mul, yw_neg, yl_add, yl_sub, yl_mul, cj_and, cj_or, cj_xor, cj_shl, cj_shr, cj_ushr, cj_div, cj_i2c, cj_i2b, cj_dc, ck_and, ck_or, ck_xor, ck_shl, ck_shr, ck_ushr, ck_i2l, ck_l2i, ck_cmp]) ?_
      refine xZ.callv (κ := oJ) (av := [.int (yw 0), .int (yw v2), .int (yw (540 + (30 * x10))), .int (yw (30 + (30 * x11))), .int (yw (1 + x12)), .int (yw 0)]) (rest := []) (st' := fun x13 => [.int (yw x13)]) (k0 := v0) (me := xm203) hP_203 rfl (Or.inl rfl) ⟨rfl, by decide⟩ rfl rfl (Nat.le_of_ble_eq_true rfl) (by decide) hP_36 (Nat.le_of_ble_eq_true rfl) (fun _ => rfl) (k_f_Calendarhall_addSeries O f (d + 61) v0 0 v2 (540 + (30 * x10)) (30 + (30 * x11)) (1 + x12) 0 M10) (fun x13 M11 => ?_)
      refine xZ.adv (me := xm203) hP_203 3 (pc' := 70) (lv' := [(0, .ref v0), (1, .ref v1), (2, .int (yw v2)), (3, .int (yw v3)), (4, .int (yw v4))]) (st' := [.int (4 : Int32), .ref v1]) rfl ?_
      refine xZ.eqs (lv2 := [(0, .ref v0), (1, .ref v1), (2, .int (yw v2)), (3, .int (yw v3)), (4, .int (yw v4))]) (st2 := [.int (yw 4), .ref v1]) rfl (by simp only [yl_lit, yL_lit, yw_add, yw_sub, yw_mul, yw_neg, yl_add, yl_sub, yl_mul, cj_and, cj_or, cj_xor, cj_shl, cj_shr, cj_ushr, cj_div, cj_i2c, cj_i2b, cj_dc, ck_and, ck_or, ck_xor, ck_shl, ck_shr, ck_ushr, ck_i2l, ck_l2i, ck_cmp]) ?_
      refine xZ.callv (κ := oJ) (av := [.int (yw 4)]) (rest := []) (st' := fun x14 => [.int (yw x14)]) (k0 := v1) (me := xm203) hP_203 rfl (Or.inl rfl) ⟨rfl, by decide⟩ rfl rfl (Nat.le_of_ble_eq_true rfl) (by decide) hP_18 (Nat.le_of_ble_eq_true rfl) (fun _ => rfl) (k_f_LDraw_is O f (d + 67) v1 4 M11) (fun x14 M12 => ?_)
      refine xZ.jf_eq (me := xm203) hP_203 rfl (fun h5 => ?_) (fun h5 => ?_)
      · skip
        refine xZ.adv (me := xm203) hP_203 2 (pc' := 22) (lv' := [(4, .int ((yw v4) + (1 : Int32))), (0, .ref v0), (1, .ref v1), (2, .int (yw v2)), (3, .int (yw v3))]) (st' := []) rfl ?_
        refine xZ.eqs (lv2 := [(4, .int (yw (v4 + 1))), (0, .ref v0), (1, .ref v1), (2, .int (yw v2)), (3, .int (yw v3))]) (st2 := []) (by simp only [yl_lit, yL_lit, yw_add, yw_sub, yw_mul, yw_neg, yl_add, yl_sub, yl_mul, cj_and, cj_or, cj_xor, cj_shl, cj_shr, cj_ushr, cj_div, cj_i2c, cj_i2b, cj_dc, ck_and, ck_or, ck_xor, ck_shl, ck_shr, ck_ushr, ck_i2l, ck_l2i, ck_cmp]) rfl ?_
        exact xZ.sub (xsc (.tail _ (.head _)) (xsc (.tail _ (.tail _ (.head _))) (xsc (.tail _ (.tail _ (.tail _ (.head _)))) (xsc (.tail _ (.tail _ (.tail _ (.tail _ (.head _))))) (xsc (.head _) xsn))))) (show ([4, 0, 1, 2, 3] : List Nat).Nodup from by decide) (ih v0 v1 v2 v3 (v4 + 1) M12)
      · skip
        refine xZ.adv (me := xm203) hP_203 5 (pc' := 83) (lv' := [(0, .ref v0), (1, .ref v1), (2, .int (yw v2)), (3, .int (yw v3)), (4, .int (yw v4))]) (st' := [.int (4 : Int32), .int (yw v4), .ref v0, .int (yw v4), .ref v0]) rfl ?_
        refine xZ.eqs (lv2 := [(0, .ref v0), (1, .ref v1), (2, .int (yw v2)), (3, .int (yw v3)), (4, .int (yw v4))]) (st2 := [.int (yw 4), .int (yw v4), .ref v0, .int (yw v4), .ref v0]) rfl (by simp only [yl_lit, yL_lit, yw_add, yw_sub, yw_mul, yw_neg, yl_add, yl_sub, yl_mul, cj_and, cj_or, cj_xor, cj_shl, cj_shr, cj_ushr, cj_div, cj_i2c, cj_i2b, cj_dc, ck_and, ck_or, ck_xor, ck_shl, ck_shr, ck_ushr, ck_i2l, ck_l2i, ck_cmp]) ?_
        refine xZ.callv (κ := oJ) (av := [.int (yw v4), .int (yw 4)]) (rest := [.int (yw v4), .ref v0]) (st' := fun x15 => [.int (yw x15), .int (yw v4), .ref v0]) (k0 := v0) (me := xm203) hP_203 rfl (Or.inl rfl) ⟨rfl, by decide⟩ rfl rfl (Nat.le_of_ble_eq_true rfl) (by decide) hP_126 (Nat.le_of_ble_eq_true rfl) (fun _ => rfl) (k_f_Calendarhall_seriesAt O f (d + 66) v0 v4 4 M12) (fun x15 M13 => ?_)
        refine xZ.calls (κ := oJ) (av := [.int (yw x15)]) (rest := [.int (yw v4), .ref v0]) (st' := fun x16 => [.int (yw x16), .int (yw v4), .ref v0]) (me := xm203) hP_203 rfl rfl rfl (Nat.le_of_ble_eq_true rfl) (by decide) hP_253 (Nat.le_of_ble_eq_true rfl) (fun _ => rfl) (k_f_Integer_numberOfTrailingZeros O f (d + 68) x15 M13) (fun x16 M14 => ?_)
        refine xZ.adv (me := xm203) hP_203 1 (pc' := 90) (lv' := [(0, .ref v0), (1, .ref v1), (2, .int (yw v2)), (3, .int (yw v3)), (4, .int (yw v4))]) (st' := [.int (2 : Int32), .int (yw x16), .int (yw v4), .ref v0]) rfl ?_
        refine xZ.eqs (lv2 := [(0, .ref v0), (1, .ref v1), (2, .int (yw v2)), (3, .int (yw v3)), (4, .int (yw v4))]) (st2 := [.int (yw 2), .int (yw x16), .int (yw v4), .ref v0]) rfl (by simp only [yl_lit, yL_lit, yw_add, yw_sub, yw_mul, yw_neg, yl_add, yl_sub, yl_mul, cj_and, cj_or, cj_xor, cj_shl, cj_shr, cj_ushr, cj_div, cj_i2c, cj_i2b, cj_dc, ck_and, ck_or, ck_xor, ck_shl, ck_shr, ck_ushr, ck_i2l, ck_l2i, ck_cmp]) ?_
        refine xZ.callv (κ := oJ) (av := [.int (yw v4), .int (yw x16), .int (yw 2)]) (rest := []) (st' := fun x17 => [.int (yw x17)]) (k0 := v0) (me := xm203) hP_203 rfl (Or.inl rfl) ⟨rfl, by decide⟩ rfl rfl (Nat.le_of_ble_eq_true rfl) (by decide) hP_147 (Nat.le_of_ble_eq_true rfl) (fun _ => rfl) (k_f_Calendarhall_answer O f (d + 63) v0 v4 x16 2 M14) (fun x17 M15 => ?_)
        refine xZ.adv (me := xm203) hP_203 3 (pc' := 22) (lv' := [(4, .int ((yw v4) + (1 : Int32))), (0, .ref v0), (1, .ref v1), (2, .int (yw v2)), (3, .int (yw v3))]) (st' := []) rfl ?_
        refine xZ.eqs (lv2 := [(4, .int (yw (v4 + 1))), (0, .ref v0), (1, .ref v1), (2, .int (yw v2)), (3, .int (yw v3))]) (st2 := []) (by simp only [yl_lit, yL_lit, yw_add, yw_sub, yw_mul, yw_neg, yl_add, yl_sub, yl_mul, cj_and, cj_or, cj_xor, cj_shl, cj_shr, cj_ushr, cj_div, cj_i2c, cj_i2b, cj_dc, ck_and, ck_or, ck_xor, ck_shl, ck_shr, ck_ushr, ck_i2l, ck_l2i, ck_cmp]) rfl ?_
        exact xZ.sub (xsc (.tail _ (.head _)) (xsc (.tail _ (.tail _ (.head _))) (xsc (.tail _ (.tail _ (.tail _ (.head _)))) (xsc (.tail _ (.tail _ (.tail _ (.tail _ (.head _))))) (xsc (.head _) xsn))))) (show ([4, 0, 1, 2, 3] : List Nat).Nodup from by decide) (ih v0 v1 v2 v3 (v4 + 1) M15)
def f_Law_isPlanned (O : Nat → Option va_E) (f : Nat) (v0 : Nat) (v1 : Nat) (M : xM) : Option (Int × xM) :=
  (isO O M v1 15).bind fun _ =>
  xcl (f_LDraw_n O f v1 400 M) fun x1 M1 =>
  (isO O M1 v1 15).bind fun _ =>
  xcl (f_LDraw_n O f v1 3 M1) fun x2 M2 =>
  f_Law_isPlanned_22 O f f v0 v1 (100 + x1) (2 + x2) 0 M2
set_option maxRecDepth 20000 in
theorem k_f_Law_isPlanned (O : Nat → Option va_E) (f d : Nat) (v0 : Nat) (v1 : Nat) (M : xM) : xZ oJ O (d + 69) 203 0 [(0, .ref v0), (1, .ref v1)] [] M (f_Law_isPlanned O f v0 v1 M) := by
  unfold f_Law_isPlanned
  refine xZ.adv (me := xm203) hP_203 3 (pc' := 6) (lv' := [(0, .ref v0), (1, .ref v1)]) (st' := [.int (400 : Int32), .ref v1, .int (100 : Int32)]) rfl ?_
  refine xZ.eqs (lv2 := [(0, .ref v0), (1, .ref v1)]) (st2 := [.int (yw 400), .ref v1, .int (yw 100)]) rfl (by simp only [yl_lit, yL_lit, yw_add, yw_sub, yw_mul, yw_neg, yl_add, yl_sub, yl_mul, cj_and, cj_or, cj_xor, cj_shl, cj_shr, cj_ushr, cj_div, cj_i2c, cj_i2b, cj_dc, ck_and, ck_or, ck_xor, ck_shl, ck_shr, ck_ushr, ck_i2l, ck_l2i, ck_cmp]) ?_
  refine xZ.callv (κ := oJ) (av := [.int (yw 400)]) (rest := [.int (yw 100)]) (st' := fun x1 => [.int (yw x1), .int (yw 100)]) (k0 := v1) (me := xm203) hP_203 rfl (Or.inl rfl) ⟨rfl, by decide⟩ rfl rfl (Nat.le_of_ble_eq_true rfl) (by decide) hP_12 (Nat.le_of_ble_eq_true rfl) (fun _ => rfl) (k_f_LDraw_n O f (d + 68) v1 400 M) (fun x1 M1 => ?_)
  refine xZ.adv (me := xm203) hP_203 5 (pc' := 14) (lv' := [(2, .int ((yw 100) + (yw x1))), (0, .ref v0), (1, .ref v1)]) (st' := [.int (3 : Int32), .ref v1, .int (2 : Int32)]) rfl ?_
  refine xZ.eqs (lv2 := [(2, .int (yw (100 + x1))), (0, .ref v0), (1, .ref v1)]) (st2 := [.int (yw 3), .ref v1, .int (yw 2)]) (by simp only [yl_lit, yL_lit, yw_add, yw_sub, yw_mul, yw_neg, yl_add, yl_sub, yl_mul, cj_and, cj_or, cj_xor, cj_shl, cj_shr, cj_ushr, cj_div, cj_i2c, cj_i2b, cj_dc, ck_and, ck_or, ck_xor, ck_shl, ck_shr, ck_ushr, ck_i2l, ck_l2i, ck_cmp]) (by simp only [yl_lit, yL_lit, yw_add, yw_sub, yw_mul, yw_neg, yl_add, yl_sub, yl_mul, cj_and, cj_or, cj_xor, cj_shl, cj_shr, cj_ushr, cj_div, cj_i2c, cj_i2b, cj_dc, ck_and, ck_or, ck_xor, ck_shl, ck_shr, ck_ushr, ck_i2l, ck_l2i, ck_cmp]) ?_
  refine xZ.callv (κ := oJ) (av := [.int (yw 3)]) (rest := [.int (yw 2)]) (st' := fun x2 => [.int (yw x2), .int (yw 2)]) (k0 := v1) (me := xm203) hP_203 rfl (Or.inl rfl) ⟨rfl, by decide⟩ rfl rfl (Nat.le_of_ble_eq_true rfl) (by decide) hP_12 (Nat.le_of_ble_eq_true rfl) (fun _ => rfl) (k_f_LDraw_n O f (d + 68) v1 3 M1) (fun x2 M2 => ?_)
  refine xZ.adv (me := xm203) hP_203 4 (pc' := 22) (lv' := [(4, .int (0 : Int32)), (3, .int ((yw 2) + (yw x2))), (2, .int (yw (100 + x1))), (0, .ref v0), (1, .ref v1)]) (st' := []) rfl ?_
  refine xZ.eqs (lv2 := [(4, .int (yw 0)), (3, .int (yw (2 + x2))), (2, .int (yw (100 + x1))), (0, .ref v0), (1, .ref v1)]) (st2 := []) (by simp only [yl_lit, yL_lit, yw_add, yw_sub, yw_mul, yw_neg, yl_add, yl_sub, yl_mul, cj_and, cj_or, cj_xor, cj_shl, cj_shr, cj_ushr, cj_div, cj_i2c, cj_i2b, cj_dc, ck_and, ck_or, ck_xor, ck_shl, ck_shr, ck_ushr, ck_i2l, ck_l2i, ck_cmp]) rfl ?_
  exact xZ.sub (xsc (.tail _ (.tail _ (.tail _ (.head _)))) (xsc (.tail _ (.tail _ (.tail _ (.tail _ (.head _))))) (xsc (.tail _ (.tail _ (.head _))) (xsc (.tail _ (.head _)) (xsc (.head _) xsn))))) (show ([4, 3, 2, 0, 1] : List Nat).Nodup from by decide) (k_f_Law_isPlanned_22 O f d f v0 v1 (100 + x1) (2 + x2) 0 M2)
