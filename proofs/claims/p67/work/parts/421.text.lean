/-! ===== texts ===== -/
def f_Calendarhall_deviceNumbered (O : Nat → Option va_E) (f : Nat) (v0 : Nat) (v1 : Int) (M : xM) : Option (Nat × xM) :=
  if yw v1 < yw 0 then (
    none
  ) else
  if yw v1 < yw 2 then (
    (gR O M v0 12 0).bind fun x1 =>
    (isO O M x1 4).bind fun _ =>
    xcl (f_Hall_anyDevice O f x1 v1 M) fun x2 M1 =>
    some (x2, M1)
  ) else
  none
set_option maxRecDepth 20000 in
theorem k_f_Calendarhall_deviceNumbered (O : Nat → Option va_E) (f d : Nat) (v0 : Nat) (v1 : Int) (M : xM) : xZ oR O (d + 1) 238 0 [(0, .ref v0), (1, .int (yw v1))] [] M (f_Calendarhall_deviceNumbered O f v0 v1 M) := by
  unfold f_Calendarhall_deviceNumbered
  refine xZ.adv (me := xm238) hP_238 1 (pc' := 1) (lv' := [(0, .ref v0), (1, .int (yw v1))]) (st' := [.int (yw v1)]) rfl ?_
  refine xZ.jf_lt (me := xm238) hP_238 rfl (fun h1 => ?_) (fun h1 => ?_)
  · skip
    exact xZ.no
  · skip
    refine xZ.adv (me := xm238) hP_238 2 (pc' := 6) (lv' := [(0, .ref v0), (1, .int (yw v1))]) (st' := [.int (2 : Int32), .int (yw v1)]) rfl ?_
    refine xZ.eqs (lv2 := [(0, .ref v0), (1, .int (yw v1))]) (st2 := [.int (yw 2), .int (yw v1)]) rfl (by simp only [yl_lit, yL_lit, yw_add, yw_sub, yw_mul, yw_neg, yl_add, yl_sub, yl_mul, cj_and, cj_or, cj_xor, cj_shl, cj_shr, cj_ushr, cj_div, cj_i2c, cj_i2b, cj_dc, ck_and, ck_or, ck_xor, ck_shl, ck_shr, ck_ushr, ck_i2l, ck_l2i, ck_cmp]) ?_
    refine xZ.jc_lt (me := xm238) hP_238 rfl (fun h2 => ?_) (fun h2 => ?_)
    · skip
      refine xZ.adv (me := xm238) hP_238 1 (pc' := 18) (lv' := [(0, .ref v0), (1, .int (yw v1))]) (st' := [.ref v0]) rfl ?_
      refine xZ.k_gR (me := xm238) hP_238 rfl (fun x1 => ?_)
      refine xZ.adv (me := xm238) hP_238 1 (pc' := 22) (lv' := [(0, .ref v0), (1, .int (yw v1))]) (st' := [.int (yw v1), .ref x1]) rfl ?_
      refine xZ.callv (κ := oR) (av := [.int (yw v1)]) (rest := []) (st' := fun x2 => [.ref x2]) (k0 := x1) (me := xm238) hP_238 rfl (Or.inl rfl) ⟨rfl, by decide⟩ rfl rfl (Nat.le_of_ble_eq_true rfl) (by decide) hP_34 (Nat.le_of_ble_eq_true rfl) (fun _ => rfl) (k_f_Hall_anyDevice O f (d + 0) x1 v1 M) (fun x2 M1 => ?_)
      exact xZ.retr (me := xm238) hP_238 rfl rfl rfl
    · skip
      exact xZ.no
def f_Device_show_45 (O : Nat → Option va_E) (f : Nat) (v0 : Nat) (v1 : Int) (v2 : Int) (v3 : Int) (v4 : Int) (M : xM) : Option (Unit × xM) :=
  (gR O M v0 3 5).bind fun x1 =>
  (wJ M x1 v2 v3).bind fun M1 =>
  (gR O M1 v0 3 6).bind fun x2 =>
  (wJ M1 x2 v2 v4).bind fun M2 =>
  (gR O M2 v0 3 7).bind fun x3 =>
  (wJ M2 x3 v2 v1).bind fun M3 =>
  some ((), M3)
set_option maxRecDepth 20000 in
theorem k_f_Device_show_45 (O : Nat → Option va_E) (f d : Nat) (v0 : Nat) (v1 : Int) (v2 : Int) (v3 : Int) (v4 : Int) (M : xM) : xZ oU O (d + 0) 240 45 [(0, .ref v0), (1, .int (yw v1)), (2, .int (yw v2)), (3, .int (yw v3)), (4, .int (yw v4))] [] M (f_Device_show_45 O f v0 v1 v2 v3 v4 M) := by
  unfold f_Device_show_45
  refine xZ.adv (me := xm240) hP_240 1 (pc' := 46) (lv' := [(0, .ref v0), (1, .int (yw v1)), (2, .int (yw v2)), (3, .int (yw v3)), (4, .int (yw v4))]) (st' := [.ref v0]) rfl ?_
  refine xZ.k_gR (me := xm240) hP_240 rfl (fun x1 => ?_)
  refine xZ.adv (me := xm240) hP_240 2 (pc' := 51) (lv' := [(0, .ref v0), (1, .int (yw v1)), (2, .int (yw v2)), (3, .int (yw v3)), (4, .int (yw v4))]) (st' := [.int (yw v3), .int (yw v2), .ref x1]) rfl ?_
  refine xZ.k_wJ (me := xm240) hP_240 rfl (fun M1 => ?_)
  refine xZ.adv (me := xm240) hP_240 1 (pc' := 53) (lv' := [(0, .ref v0), (1, .int (yw v1)), (2, .int (yw v2)), (3, .int (yw v3)), (4, .int (yw v4))]) (st' := [.ref v0]) rfl ?_
  refine xZ.k_gR (me := xm240) hP_240 rfl (fun x2 => ?_)
  refine xZ.adv (me := xm240) hP_240 2 (pc' := 59) (lv' := [(0, .ref v0), (1, .int (yw v1)), (2, .int (yw v2)), (3, .int (yw v3)), (4, .int (yw v4))]) (st' := [.int (yw v4), .int (yw v2), .ref x2]) rfl ?_
  refine xZ.k_wJ (me := xm240) hP_240 rfl (fun M2 => ?_)
  refine xZ.adv (me := xm240) hP_240 1 (pc' := 61) (lv' := [(0, .ref v0), (1, .int (yw v1)), (2, .int (yw v2)), (3, .int (yw v3)), (4, .int (yw v4))]) (st' := [.ref v0]) rfl ?_
  refine xZ.k_gR (me := xm240) hP_240 rfl (fun x3 => ?_)
  refine xZ.adv (me := xm240) hP_240 2 (pc' := 66) (lv' := [(0, .ref v0), (1, .int (yw v1)), (2, .int (yw v2)), (3, .int (yw v3)), (4, .int (yw v4))]) (st' := [.int (yw v1), .int (yw v2), .ref x3]) rfl ?_
  refine xZ.k_wJ (me := xm240) hP_240 rfl (fun M3 => ?_)
  exact xZ.retu (me := xm240) hP_240 rfl rfl
def f_Device_show (O : Nat → Option va_E) (f : Nat) (v0 : Nat) (v1 : Int) (v2 : Int) (v3 : Int) (v4 : Int) (M : xM) : Option (Unit × xM) :=
  if yw v2 < yw 0 then (
    some ((), M)
  ) else
  if yw v2 < yw 48 then (
    (gR O M v0 3 6).bind fun x1 =>
    (aJ O M x1 v2).bind fun x2 =>
    if yw x2 ≤ yw v4 then (
      (gR O M v0 3 6).bind fun x3 =>
      (aJ O M x3 v2).bind fun x4 =>
      if yw v4 = yw x4 then (
        (gR O M v0 3 7).bind fun x5 =>
        (aJ O M x5 v2).bind fun x6 =>
        if yw x6 ≤ yw v1 then (
          f_Device_show_45 O f v0 v1 v2 v3 v4 M
        ) else
        some ((), M)
      ) else
      f_Device_show_45 O f v0 v1 v2 v3 v4 M
    ) else
    some ((), M)
  ) else
  some ((), M)
set_option maxRecDepth 20000 in
theorem k_f_Device_show (O : Nat → Option va_E) (f d : Nat) (v0 : Nat) (v1 : Int) (v2 : Int) (v3 : Int) (v4 : Int) (M : xM) : xZ oU O (d + 0) 240 0 [(0, .ref v0), (1, .int (yw v1)), (2, .int (yw v2)), (3, .int (yw v3)), (4, .int (yw v4))] [] M (f_Device_show O f v0 v1 v2 v3 v4 M) := by
  unfold f_Device_show
  refine xZ.adv (me := xm240) hP_240 1 (pc' := 1) (lv' := [(0, .ref v0), (1, .int (yw v1)), (2, .int (yw v2)), (3, .int (yw v3)), (4, .int (yw v4))]) (st' := [.int (yw v2)]) rfl ?_
  refine xZ.jf_lt (me := xm240) hP_240 rfl (fun h1 => ?_) (fun h1 => ?_)
  · skip
    exact xZ.retu (me := xm240) hP_240 rfl rfl
  · skip
    refine xZ.adv (me := xm240) hP_240 2 (pc' := 7) (lv' := [(0, .ref v0), (1, .int (yw v1)), (2, .int (yw v2)), (3, .int (yw v3)), (4, .int (yw v4))]) (st' := [.int (48 : Int32), .int (yw v2)]) rfl ?_
    refine xZ.eqs (lv2 := [(0, .ref v0), (1, .int (yw v1)), (2, .int (yw v2)), (3, .int (yw v3)), (4, .int (yw v4))]) (st2 := [.int (yw 48), .int (yw v2)]) rfl (by simp only [yl_lit, yL_lit, yw_add, yw_sub, yw_mul, yw_neg, yl_add, yl_sub, yl_mul, cj_and, cj_or, cj_xor, cj_shl, cj_shr, cj_ushr, cj_div, cj_i2c, cj_i2b, cj_dc, ck_and, ck_or, ck_xor, ck_shl, ck_shr, ck_ushr, ck_i2l, ck_l2i, ck_cmp]) ?_
    refine xZ.jc_lt (me := xm240) hP_240 rfl (fun h2 => ?_) (fun h2 => ?_)
    · skip
      refine xZ.adv (me := xm240) hP_240 2 (pc' := 14) (lv' := [(0, .ref v0), (1, .int (yw v1)), (2, .int (yw v2)), (3, .int (yw v3)), (4, .int (yw v4))]) (st' := [.ref v0, .int (yw v4)]) rfl ?_
      refine xZ.k_gR (me := xm240) hP_240 rfl (fun x1 => ?_)
      refine xZ.adv (me := xm240) hP_240 1 (pc' := 18) (lv' := [(0, .ref v0), (1, .int (yw v1)), (2, .int (yw v2)), (3, .int (yw v3)), (4, .int (yw v4))]) (st' := [.int (yw v2), .ref x1, .int (yw v4)]) rfl ?_
      refine xZ.k_aJ (me := xm240) hP_240 rfl (fun x2 => ?_)
      refine xZ.jc_ge (me := xm240) hP_240 rfl (fun h3 => ?_) (fun h3 => ?_)
      · skip
        refine xZ.adv (me := xm240) hP_240 2 (pc' := 26) (lv' := [(0, .ref v0), (1, .int (yw v1)), (2, .int (yw v2)), (3, .int (yw v3)), (4, .int (yw v4))]) (st' := [.ref v0, .int (yw v4)]) rfl ?_
        refine xZ.k_gR (me := xm240) hP_240 rfl (fun x3 => ?_)
        refine xZ.adv (me := xm240) hP_240 1 (pc' := 30) (lv' := [(0, .ref v0), (1, .int (yw v1)), (2, .int (yw v2)), (3, .int (yw v3)), (4, .int (yw v4))]) (st' := [.int (yw v2), .ref x3, .int (yw v4)]) rfl ?_
        refine xZ.k_aJ (me := xm240) hP_240 rfl (fun x4 => ?_)
        refine xZ.jc_ne (me := xm240) hP_240 rfl (fun h4 => ?_) (fun h4 => ?_)
        · skip
          refine xZ.adv (me := xm240) hP_240 2 (pc' := 36) (lv' := [(0, .ref v0), (1, .int (yw v1)), (2, .int (yw v2)), (3, .int (yw v3)), (4, .int (yw v4))]) (st' := [.ref v0, .int (yw v1)]) rfl ?_
          refine xZ.k_gR (me := xm240) hP_240 rfl (fun x5 => ?_)
          refine xZ.adv (me := xm240) hP_240 1 (pc' := 40) (lv' := [(0, .ref v0), (1, .int (yw v1)), (2, .int (yw v2)), (3, .int (yw v3)), (4, .int (yw v4))]) (st' := [.int (yw v2), .ref x5, .int (yw v1)]) rfl ?_
          refine xZ.k_aJ (me := xm240) hP_240 rfl (fun x6 => ?_)
          refine xZ.jc_ge (me := xm240) hP_240 rfl (fun h5 => ?_) (fun h5 => ?_)
          · skip
            exact (k_f_Device_show_45 O f d v0 v1 v2 v3 v4 M)
          · skip
            exact xZ.retu (me := xm240) hP_240 rfl rfl
        · skip
          exact (k_f_Device_show_45 O f d v0 v1 v2 v3 v4 M)
      · skip
        exact xZ.retu (me := xm240) hP_240 rfl rfl
    · skip
      exact xZ.retu (me := xm240) hP_240 rfl rfl
def f_Device_make (O : Nat → Option va_E) (f : Nat) (v0 : Nat) (v1 : Int) (v2 : Int) (v3 : Int) (M : xM) : Option (Unit × xM) :=
  (gJ O M v0 3 1).bind fun x1 =>
  if yw x1 < yw 0 then (
    some ((), M)
  ) else
  (gJ O M v0 3 1).bind fun x2 =>
  if yw x2 < yw 40 then (
    (gJ O M v0 3 0).bind fun x3 =>
    (pJ M v0 3 0 (x3 + 1)).bind fun M1 =>
    (gR O M1 v0 3 2).bind fun x4 =>
    (gJ O M1 v0 3 1).bind fun x5 =>
    (wJ M1 x4 x5 v2).bind fun M2 =>
    (gR O M2 v0 3 3).bind fun x6 =>
    (gJ O M2 v0 3 1).bind fun x7 =>
    (wJ M2 x6 x7 v3).bind fun M3 =>
    (gR O M3 v0 3 4).bind fun x8 =>
    (gJ O M3 v0 3 1).bind fun x9 =>
    (gJ O M3 v0 3 0).bind fun x10 =>
    (wJ M3 x8 x9 x10).bind fun M4 =>
    (gJ O M4 v0 3 1).bind fun x11 =>
    (pJ M4 v0 3 1 (x11 + 1)).bind fun M5 =>
    (gJ O M5 v0 3 0).bind fun x12 =>
    (isO O M5 v0 3).bind fun _ =>
    xcl (f_Device_show O f v0 v1 v2 v3 x12 M5) fun _ M6 =>
    some ((), M6)
  ) else
  some ((), M)
set_option maxRecDepth 20000 in
theorem k_f_Device_make (O : Nat → Option va_E) (f d : Nat) (v0 : Nat) (v1 : Int) (v2 : Int) (v3 : Int) (M : xM) : xZ oU O (d + 1) 239 0 [(0, .ref v0), (1, .int (yw v1)), (2, .int (yw v2)), (3, .int (yw v3))] [] M (f_Device_make O f v0 v1 v2 v3 M) := by
  unfold f_Device_make
  refine xZ.adv (me := xm239) hP_239 1 (pc' := 1) (lv' := [(0, .ref v0), (1, .int (yw v1)), (2, .int (yw v2)), (3, .int (yw v3))]) (st' := [.ref v0]) rfl ?_
  refine xZ.k_gJ (me := xm239) hP_239 rfl (fun x1 => ?_)
  refine xZ.jf_lt (me := xm239) hP_239 rfl (fun h1 => ?_) (fun h1 => ?_)
  · skip
    exact xZ.retu (me := xm239) hP_239 rfl rfl
  · skip
    refine xZ.adv (me := xm239) hP_239 1 (pc' := 8) (lv' := [(0, .ref v0), (1, .int (yw v1)), (2, .int (yw v2)), (3, .int (yw v3))]) (st' := [.ref v0]) rfl ?_
    refine xZ.k_gJ (me := xm239) hP_239 rfl (fun x2 => ?_)
    refine xZ.adv (me := xm239) hP_239 1 (pc' := 13) (lv' := [(0, .ref v0), (1, .int (yw v1)), (2, .int (yw v2)), (3, .int (yw v3))]) (st' := [.int (40 : Int32), .int (yw x2)]) rfl ?_
    refine xZ.eqs (lv2 := [(0, .ref v0), (1, .int (yw v1)), (2, .int (yw v2)), (3, .int (yw v3))]) (st2 := [.int (yw 40), .int (yw x2)]) rfl (by simp only [yl_lit, yL_lit, yw_add, yw_sub, yw_mul, yw_neg, yl_add, yl_sub, yl_mul, cj_and, cj_or, cj_xor, cj_shl, cj_shr, cj_ushr, cj_div, cj_i2c, cj_i2b, cj_dc, ck_and, ck_or, ck_xor, ck_shl, ck_shr, ck_ushr, ck_i2l, ck_l2i, ck_cmp]) ?_
    refine xZ.jc_lt (me := xm239) hP_239 rfl (fun h2 => ?_) (fun h2 => ?_)
    · skip
      refine xZ.adv (me := xm239) hP_239 2 (pc' := 19) (lv' := [(0, .ref v0), (1, .int (yw v1)), (2, .int (yw v2)), (3, .int (yw v3))]) (st' := [.ref v0, .ref v0]) rfl ?_
      refine xZ.k_gJ (me := xm239) hP_239 rfl (fun x3 => ?_)
      refine xZ.adv (me := xm239) hP_239 2 (pc' := 24) (lv' := [(0, .ref v0), (1, .int (yw v1)), (2, .int (yw v2)), (3, .int (yw v3))]) (st' := [.int ((yw x3) + (1 : Int32)), .ref v0]) rfl ?_
      refine xZ.eqs (lv2 := [(0, .ref v0), (1, .int (yw v1)), (2, .int (yw v2)), (3, .int (yw v3))]) (st2 := [.int (yw (x3 + 1)), .ref v0]) rfl (by simp only [yl_lit, yL_lit, yw_add, yw_sub, yw_mul, yw_neg, yl_add, yl_sub, yl_mul, cj_and, cj_or, cj_xor, cj_shl, cj_shr, cj_ushr, cj_div, cj_i2c, cj_i2b, cj_dc, ck_and, ck_or, ck_xor, ck_shl, ck_shr, ck_ushr, ck_i2l, ck_l2i, ck_cmp]) ?_
      refine xZ.k_pJ (me := xm239) hP_239 rfl (fun M1 => ?_)
      refine xZ.adv (me := xm239) hP_239 1 (pc' := 28) (lv' := [(0, .ref v0), (1, .int (yw v1)), (2, .int (yw v2)), (3, .int (yw v3))]) (st' := [.ref v0]) rfl ?_
      refine xZ.k_gR (me := xm239) hP_239 rfl (fun x4 => ?_)
      refine xZ.adv (me := xm239) hP_239 1 (pc' := 32) (lv' := [(0, .ref v0), (1, .int (yw v1)), (2, .int (yw v2)), (3, .int (yw v3))]) (st' := [.ref v0, .ref x4]) rfl ?_
      refine xZ.k_gJ (me := xm239) hP_239 rfl (fun x5 => ?_)
      refine xZ.adv (me := xm239) hP_239 1 (pc' := 36) (lv' := [(0, .ref v0), (1, .int (yw v1)), (2, .int (yw v2)), (3, .int (yw v3))]) (st' := [.int (yw v2), .int (yw x5), .ref x4]) rfl ?_
      refine xZ.k_wJ (me := xm239) hP_239 rfl (fun M2 => ?_)
      refine xZ.adv (me := xm239) hP_239 1 (pc' := 38) (lv' := [(0, .ref v0), (1, .int (yw v1)), (2, .int (yw v2)), (3, .int (yw v3))]) (st' := [.ref v0]) rfl ?_
      refine xZ.k_gR (me := xm239) hP_239 rfl (fun x6 => ?_)
      refine xZ.adv (me := xm239) hP_239 1 (pc' := 42) (lv' := [(0, .ref v0), (1, .int (yw v1)), (2, .int (yw v2)), (3, .int (yw v3))]) (st' := [.ref v0, .ref x6]) rfl ?_
      refine xZ.k_gJ (me := xm239) hP_239 rfl (fun x7 => ?_)
      refine xZ.adv (me := xm239) hP_239 1 (pc' := 46) (lv' := [(0, .ref v0), (1, .int (yw v1)), (2, .int (yw v2)), (3, .int (yw v3))]) (st' := [.int (yw v3), .int (yw x7), .ref x6]) rfl ?_
      refine xZ.k_wJ (me := xm239) hP_239 rfl (fun M3 => ?_)
      refine xZ.adv (me := xm239) hP_239 1 (pc' := 48) (lv' := [(0, .ref v0), (1, .int (yw v1)), (2, .int (yw v2)), (3, .int (yw v3))]) (st' := [.ref v0]) rfl ?_
      refine xZ.k_gR (me := xm239) hP_239 rfl (fun x8 => ?_)
      refine xZ.adv (me := xm239) hP_239 1 (pc' := 52) (lv' := [(0, .ref v0), (1, .int (yw v1)), (2, .int (yw v2)), (3, .int (yw v3))]) (st' := [.ref v0, .ref x8]) rfl ?_
      refine xZ.k_gJ (me := xm239) hP_239 rfl (fun x9 => ?_)
      refine xZ.adv (me := xm239) hP_239 1 (pc' := 56) (lv' := [(0, .ref v0), (1, .int (yw v1)), (2, .int (yw v2)), (3, .int (yw v3))]) (st' := [.ref v0, .int (yw x9), .ref x8]) rfl ?_
      refine xZ.k_gJ (me := xm239) hP_239 rfl (fun x10 => ?_)
      refine xZ.k_wJ (me := xm239) hP_239 rfl (fun M4 => ?_)
      refine xZ.adv (me := xm239) hP_239 2 (pc' := 62) (lv' := [(0, .ref v0), (1, .int (yw v1)), (2, .int (yw v2)), (3, .int (yw v3))]) (st' := [.ref v0, .ref v0]) rfl ?_
      refine xZ.k_gJ (me := xm239) hP_239 rfl (fun x11 => ?_)
      refine xZ.adv (me := xm239) hP_239 2 (pc' := 67) (lv' := [(0, .ref v0), (1, .int (yw v1)), (2, .int (yw v2)), (3, .int (yw v3))]) (st' := [.int ((yw x11) + (1 : Int32)), .ref v0]) rfl ?_
      refine xZ.eqs (lv2 := [(0, .ref v0), (1, .int (yw v1)), (2, .int (yw v2)), (3, .int (yw v3))]) (st2 := [.int (yw (x11 + 1)), .ref v0]) rfl (by simp only [yl_lit, yL_lit, yw_add, yw_sub, yw_mul, yw_neg, yl_add, yl_sub, yl_mul, cj_and, cj_or, cj_xor, cj_shl, cj_shr, cj_ushr, cj_div, cj_i2c, cj_i2b, cj_dc, ck_and, ck_or, ck_xor, ck_shl, ck_shr, ck_ushr, ck_i2l, ck_l2i, ck_cmp]) ?_
      refine xZ.k_pJ (me := xm239) hP_239 rfl (fun M5 => ?_)
      refine xZ.adv (me := xm239) hP_239 5 (pc' := 75) (lv' := [(0, .ref v0), (1, .int (yw v1)), (2, .int (yw v2)), (3, .int (yw v3))]) (st' := [.ref v0, .int (yw v3), .int (yw v2), .int (yw v1), .ref v0]) rfl ?_
      refine xZ.k_gJ (me := xm239) hP_239 rfl (fun x12 => ?_)
      refine xZ.callv (κ := oU) (av := [.int (yw v1), .int (yw v2), .int (yw v3), .int (yw x12)]) (rest := []) (st' := fun _ => []) (k0 := v0) (me := xm239) hP_239 rfl (Or.inl rfl) ⟨rfl, by decide⟩ rfl rfl (Nat.le_of_ble_eq_true rfl) (by decide) hP_240 (Nat.le_of_ble_eq_true rfl) (fun _ => rfl) (k_f_Device_show O f (d + 0) v0 v1 v2 v3 x12 M5) (fun _ M6 => ?_)
      exact xZ.retu (me := xm239) hP_239 rfl rfl
    · skip
      exact xZ.retu (me := xm239) hP_239 rfl rfl
def f_Calendarhall_change (O : Nat → Option va_E) (f : Nat) (v0 : Nat) (v1 : Int) (v2 : Int) (v3 : Int) (v4 : Int) (M : xM) : Option (Int × xM) :=
  (isO O M v0 12).bind fun _ =>
  xcl (f_Calendarhall_deviceNumbered O f v0 v1 M) fun x1 M1 =>
  xcl (f_Calendarhall_needRange O f v2 0 11 M1) fun _ M2 =>
  xcl (f_Calendarhall_needRange O f v3 0 3 M2) fun _ M3 =>
  xcl (f_Calendarhall_needRange O f v4 0 999 M3) fun _ M4 =>
  (gJ O M4 x1 3 1).bind fun x5 =>
  if yw x5 < yw 40 then (
    (isO O M4 v0 12).bind fun _ =>
    xcl (f_Calendarhall_saveForUndo O f v0 M4) fun _ M5 =>
    (isO O M5 x1 3).bind fun _ =>
    xcl (f_Device_make O f x1 v1 ((v2 * 4) + v3) v4 M5) fun _ M6 =>
    (gJ O M6 x1 3 0).bind fun x8 =>
    some (x8, M6)
  ) else
  none
set_option maxRecDepth 20000 in
theorem k_f_Calendarhall_change (O : Nat → Option va_E) (f d : Nat) (v0 : Nat) (v1 : Int) (v2 : Int) (v3 : Int) (v4 : Int) (M : xM) : xZ oJ O (d + 5) 237 0 [(0, .ref v0), (1, .int (yw v1)), (2, .int (yw v2)), (3, .int (yw v3)), (4, .int (yw v4))] [] M (f_Calendarhall_change O f v0 v1 v2 v3 v4 M) := by
  unfold f_Calendarhall_change
  refine xZ.adv (me := xm237) hP_237 2 (pc' := 2) (lv' := [(0, .ref v0), (1, .int (yw v1)), (2, .int (yw v2)), (3, .int (yw v3)), (4, .int (yw v4))]) (st' := [.int (yw v1), .ref v0]) rfl ?_
  refine xZ.callv (κ := oR) (av := [.int (yw v1)]) (rest := []) (st' := fun x1 => [.ref x1]) (k0 := v0) (me := xm237) hP_237 rfl (Or.inl rfl) ⟨rfl, by decide⟩ rfl rfl (Nat.le_of_ble_eq_true rfl) (by decide) hP_238 (Nat.le_of_ble_eq_true rfl) (fun _ => rfl) (k_f_Calendarhall_deviceNumbered O f (d + 3) v0 v1 M) (fun x1 M1 => ?_)
  refine xZ.adv (me := xm237) hP_237 4 (pc' := 11) (lv' := [(5, .ref x1), (0, .ref v0), (1, .int (yw v1)), (2, .int (yw v2)), (3, .int (yw v3)), (4, .int (yw v4))]) (st' := [.int (11 : Int32), .int (0 : Int32), .int (yw v2)]) rfl ?_
  refine xZ.eqs (lv2 := [(5, .ref x1), (0, .ref v0), (1, .int (yw v1)), (2, .int (yw v2)), (3, .int (yw v3)), (4, .int (yw v4))]) (st2 := [.int (yw 11), .int (yw 0), .int (yw v2)]) rfl (by simp only [yl_lit, yL_lit, yw_add, yw_sub, yw_mul, yw_neg, yl_add, yl_sub, yl_mul, cj_and, cj_or, cj_xor, cj_shl, cj_shr, cj_ushr, cj_div, cj_i2c, cj_i2b, cj_dc, ck_and, ck_or, ck_xor, ck_shl, ck_shr, ck_ushr, ck_i2l, ck_l2i, ck_cmp]) ?_
  refine xZ.calls (κ := oU) (av := [.int (yw v2), .int (yw 0), .int (yw 11)]) (rest := []) (st' := fun _ => []) (me := xm237) hP_237 rfl rfl rfl (Nat.le_of_ble_eq_true rfl) (by decide) hP_22 (Nat.le_of_ble_eq_true rfl) (fun _ => rfl) (k_f_Calendarhall_needRange O f (d + 4) v2 0 11 M1) (fun _ M2 => ?_)
  refine xZ.adv (me := xm237) hP_237 3 (pc' := 17) (lv' := [(5, .ref x1), (0, .ref v0), (1, .int (yw v1)), (2, .int (yw v2)), (3, .int (yw v3)), (4, .int (yw v4))]) (st' := [.int (3 : Int32), .int (0 : Int32), .int (yw v3)]) rfl ?_
  refine xZ.eqs (lv2 := [(5, .ref x1), (0, .ref v0), (1, .int (yw v1)), (2, .int (yw v2)), (3, .int (yw v3)), (4, .int (yw v4))]) (st2 := [.int (yw 3), .int (yw 0), .int (yw v3)]) rfl (by simp only [yl_lit, yL_lit, yw_add, yw_sub, yw_mul, yw_neg, yl_add, yl_sub, yl_mul, cj_and, cj_or, cj_xor, cj_shl, cj_shr, cj_ushr, cj_div, cj_i2c, cj_i2b, cj_dc, ck_and, ck_or, ck_xor, ck_shl, ck_shr, ck_ushr, ck_i2l, ck_l2i, ck_cmp]) ?_
  refine xZ.calls (κ := oU) (av := [.int (yw v3), .int (yw 0), .int (yw 3)]) (rest := []) (st' := fun _ => []) (me := xm237) hP_237 rfl rfl rfl (Nat.le_of_ble_eq_true rfl) (by decide) hP_22 (Nat.le_of_ble_eq_true rfl) (fun _ => rfl) (k_f_Calendarhall_needRange O f (d + 4) v3 0 3 M2) (fun _ M3 => ?_)
  refine xZ.adv (me := xm237) hP_237 3 (pc' := 26) (lv' := [(5, .ref x1), (0, .ref v0), (1, .int (yw v1)), (2, .int (yw v2)), (3, .int (yw v3)), (4, .int (yw v4))]) (st' := [.int (999 : Int32), .int (0 : Int32), .int (yw v4)]) rfl ?_
  refine xZ.eqs (lv2 := [(5, .ref x1), (0, .ref v0), (1, .int (yw v1)), (2, .int (yw v2)), (3, .int (yw v3)), (4, .int (yw v4))]) (st2 := [.int (yw 999), .int (yw 0), .int (yw v4)]) rfl (by simp only [yl_lit, yL_lit, yw_add, yw_sub, yw_mul, yw_neg, yl_add, yl_sub, yl_mul, cj_and, cj_or, cj_xor, cj_shl, cj_shr, cj_ushr, cj_div, cj_i2c, cj_i2b, cj_dc, ck_and, ck_or, ck_xor, ck_shl, ck_shr, ck_ushr, ck_i2l, ck_l2i, ck_cmp]) ?_
  refine xZ.calls (κ := oU) (av := [.int (yw v4), .int (yw 0), .int (yw 999)]) (rest := []) (st' := fun _ => []) (me := xm237) hP_237 rfl rfl rfl (Nat.le_of_ble_eq_true rfl) (by decide) hP_22 (Nat.le_of_ble_eq_true rfl) (fun _ => rfl) (k_f_Calendarhall_needRange O f (d + 4) v4 0 999 M3) (fun _ M4 => ?_)
  refine xZ.adv (me := xm237) hP_237 1 (pc' := 31) (lv' := [(5, .ref x1), (0, .ref v0), (1, .int (yw v1)), (2, .int (yw v2)), (3, .int (yw v3)), (4, .int (yw v4))]) (st' := [.ref x1]) rfl ?_
  refine xZ.k_gJ (me := xm237) hP_237 rfl (fun x5 => ?_)
  refine xZ.adv (me := xm237) hP_237 1 (pc' := 36) (lv' := [(5, .ref x1), (0, .ref v0), (1, .int (yw v1)), (2, .int (yw v2)), (3, .int (yw v3)), (4, .int (yw v4))]) (st' := [.int (40 : Int32), .int (yw x5)]) rfl ?_
  refine xZ.eqs (lv2 := [(5, .ref x1), (0, .ref v0), (1, .int (yw v1)), (2, .int (yw v2)), (3, .int (yw v3)), (4, .int (yw v4))]) (st2 := [.int (yw 40), .int (yw x5)]) rfl (by simp only [yl_lit, yL_lit, yw_add, yw_sub, yw_mul, yw_neg, yl_add, yl_sub, yl_mul, cj_and, cj_or, cj_xor, cj_shl, cj_shr, cj_ushr, cj_div, cj_i2c, cj_i2b, cj_dc, ck_and, ck_or, ck_xor, ck_shl, ck_shr, ck_ushr, ck_i2l, ck_l2i, ck_cmp]) ?_
  refine xZ.jc_lt (me := xm237) hP_237 rfl (fun h1 => ?_) (fun h1 => ?_)
  · skip
    refine xZ.adv (me := xm237) hP_237 1 (pc' := 48) (lv' := [(5, .ref x1), (0, .ref v0), (1, .int (yw v1)), (2, .int (yw v2)), (3, .int (yw v3)), (4, .int (yw v4))]) (st' := [.ref v0]) rfl ?_
    refine xZ.callv (κ := oU) (av := []) (rest := []) (st' := fun _ => []) (k0 := v0) (me := xm237) hP_237 rfl (Or.inl rfl) ⟨rfl, by decide⟩ rfl rfl (Nat.le_of_ble_eq_true rfl) (by decide) hP_23 (Nat.le_of_ble_eq_true rfl) (fun _ => rfl) (k_f_Calendarhall_saveForUndo O f (d + 0) v0 M4) (fun _ M5 => ?_)
    refine xZ.adv (me := xm237) hP_237 8 (pc' := 61) (lv' := [(5, .ref x1), (0, .ref v0), (1, .int (yw v1)), (2, .int (yw v2)), (3, .int (yw v3)), (4, .int (yw v4))]) (st' := [.int (yw v4), .int (((yw v2) * (4 : Int32)) + (yw v3)), .int (yw v1), .ref x1]) rfl ?_
    refine xZ.eqs (lv2 := [(5, .ref x1), (0, .ref v0), (1, .int (yw v1)), (2, .int (yw v2)), (3, .int (yw v3)), (4, .int (yw v4))]) (st2 := [.int (yw v4), .int (yw ((v2 * 4) + v3)), .int (yw v1), .ref x1]) rfl (by simp only [yl_lit, yL_lit, yw_add, yw_sub, yw_mul, yw_neg, yl_add, yl_sub, yl_mul, cj_and, cj_or, cj_xor, cj_shl, cj_shr, cj_ushr, cj_div, cj_i2c, cj_i2b, cj_dc, ck_and, ck_or, ck_xor, ck_shl, ck_shr, ck_ushr, ck_i2l, ck_l2i, ck_cmp]) ?_
    refine xZ.callv (κ := oU) (av := [.int (yw v1), .int (yw ((v2 * 4) + v3)), .int (yw v4)]) (rest := []) (st' := fun _ => []) (k0 := x1) (me := xm237) hP_237 rfl (Or.inl rfl) ⟨rfl, by decide⟩ rfl rfl (Nat.le_of_ble_eq_true rfl) (by decide) hP_239 (Nat.le_of_ble_eq_true rfl) (fun _ => rfl) (k_f_Device_make O f (d + 3) x1 v1 ((v2 * 4) + v3) v4 M5) (fun _ M6 => ?_)
    refine xZ.adv (me := xm237) hP_237 1 (pc' := 66) (lv' := [(5, .ref x1), (0, .ref v0), (1, .int (yw v1)), (2, .int (yw v2)), (3, .int (yw v3)), (4, .int (yw v4))]) (st' := [.ref x1]) rfl ?_
    refine xZ.k_gJ (me := xm237) hP_237 rfl (fun x8 => ?_)
    exact xZ.jreti (me := xm237) hP_237 rfl rfl
  · skip
    exact xZ.no
def f_Device_valueAt (O : Nat → Option va_E) (f : Nat) (v0 : Nat) (v1 : Int) (M : xM) : Option (Int × xM) :=
  if yw v1 < yw 0 then (
    some ((-1), M)
  ) else
  (gR O M v0 3 5).bind fun x1 =>
  (aJN O M x1).bind fun x2 =>
  if yw x2 ≤ yw v1 then (
    some ((-1), M)
  ) else
  (gR O M v0 3 5).bind fun x3 =>
  (aJ O M x3 v1).bind fun x4 =>
  some (x4, M)
set_option maxRecDepth 20000 in
theorem k_f_Device_valueAt (O : Nat → Option va_E) (f d : Nat) (v0 : Nat) (v1 : Int) (M : xM) : xZ oJ O (d + 0) 242 0 [(0, .ref v0), (1, .int (yw v1))] [] M (f_Device_valueAt O f v0 v1 M) := by
  unfold f_Device_valueAt
  refine xZ.adv (me := xm242) hP_242 1 (pc' := 1) (lv' := [(0, .ref v0), (1, .int (yw v1))]) (st' := [.int (yw v1)]) rfl ?_
  refine xZ.jf_lt (me := xm242) hP_242 rfl (fun h1 => ?_) (fun h1 => ?_)
  · skip
    refine xZ.adv (me := xm242) hP_242 1 (pc' := 23) (lv' := [(0, .ref v0), (1, .int (yw v1))]) (st' := [.int (-1 : Int32)]) rfl ?_
    refine xZ.eqs (lv2 := [(0, .ref v0), (1, .int (yw v1))]) (st2 := [.int (yw (-1))]) rfl (by simp only [yl_lit, yL_lit, yw_add, yw_sub, yw_mul, yw_neg, yl_add, yl_sub, yl_mul, cj_and, cj_or, cj_xor, cj_shl, cj_shr, cj_ushr, cj_div, cj_i2c, cj_i2b, cj_dc, ck_and, ck_or, ck_xor, ck_shl, ck_shr, ck_ushr, ck_i2l, ck_l2i, ck_cmp]) ?_
    exact xZ.jreti (me := xm242) hP_242 rfl rfl
  · skip
    refine xZ.adv (me := xm242) hP_242 2 (pc' := 6) (lv' := [(0, .ref v0), (1, .int (yw v1))]) (st' := [.ref v0, .int (yw v1)]) rfl ?_
    refine xZ.k_gR (me := xm242) hP_242 rfl (fun x1 => ?_)
    refine xZ.k_aJN (me := xm242) hP_242 rfl (fun x2 => ?_)
    refine xZ.jc_ge (me := xm242) hP_242 rfl (fun h2 => ?_) (fun h2 => ?_)
    · skip
      refine xZ.adv (me := xm242) hP_242 1 (pc' := 23) (lv' := [(0, .ref v0), (1, .int (yw v1))]) (st' := [.int (-1 : Int32)]) rfl ?_
      refine xZ.eqs (lv2 := [(0, .ref v0), (1, .int (yw v1))]) (st2 := [.int (yw (-1))]) rfl (by simp only [yl_lit, yL_lit, yw_add, yw_sub, yw_mul, yw_neg, yl_add, yl_sub, yl_mul, cj_and, cj_or, cj_xor, cj_shl, cj_shr, cj_ushr, cj_div, cj_i2c, cj_i2b, cj_dc, ck_and, ck_or, ck_xor, ck_shl, ck_shr, ck_ushr, ck_i2l, ck_l2i, ck_cmp]) ?_
      exact xZ.jreti (me := xm242) hP_242 rfl rfl
    · skip
      refine xZ.adv (me := xm242) hP_242 1 (pc' := 14) (lv' := [(0, .ref v0), (1, .int (yw v1))]) (st' := [.ref v0]) rfl ?_
      refine xZ.k_gR (me := xm242) hP_242 rfl (fun x3 => ?_)
      refine xZ.adv (me := xm242) hP_242 1 (pc' := 18) (lv' := [(0, .ref v0), (1, .int (yw v1))]) (st' := [.int (yw v1), .ref x3]) rfl ?_
      refine xZ.k_aJ (me := xm242) hP_242 rfl (fun x4 => ?_)
      refine xZ.adv (me := xm242) hP_242 1 (pc' := 23) (lv' := [(0, .ref v0), (1, .int (yw v1))]) (st' := [.int (yw x4)]) rfl ?_
      exact xZ.jreti (me := xm242) hP_242 rfl rfl
def f_Calendarhall_shown (O : Nat → Option va_E) (f : Nat) (v0 : Nat) (v1 : Int) (v2 : Int) (v3 : Int) (M : xM) : Option (Int × xM) :=
  (isO O M v0 12).bind fun _ =>
  xcl (f_Calendarhall_deviceNumbered O f v0 v1 M) fun x1 M1 =>
  xcl (f_Calendarhall_needRange O f v2 0 11 M1) fun _ M2 =>
  xcl (f_Calendarhall_needRange O f v3 0 3 M2) fun _ M3 =>
  (isO O M3 x1 3).bind fun _ =>
  xcl (f_Device_valueAt O f x1 ((v2 * 4) + v3) M3) fun x4 M4 =>
  some (x4, M4)
set_option maxRecDepth 20000 in
theorem k_f_Calendarhall_shown (O : Nat → Option va_E) (f d : Nat) (v0 : Nat) (v1 : Int) (v2 : Int) (v3 : Int) (M : xM) : xZ oJ O (d + 2) 241 0 [(0, .ref v0), (1, .int (yw v1)), (2, .int (yw v2)), (3, .int (yw v3))] [] M (f_Calendarhall_shown O f v0 v1 v2 v3 M) := by
  unfold f_Calendarhall_shown
  refine xZ.adv (me := xm241) hP_241 2 (pc' := 2) (lv' := [(0, .ref v0), (1, .int (yw v1)), (2, .int (yw v2)), (3, .int (yw v3))]) (st' := [.int (yw v1), .ref v0]) rfl ?_
  refine xZ.callv (κ := oR) (av := [.int (yw v1)]) (rest := []) (st' := fun x1 => [.ref x1]) (k0 := v0) (me := xm241) hP_241 rfl (Or.inl rfl) ⟨rfl, by decide⟩ rfl rfl (Nat.le_of_ble_eq_true rfl) (by decide) hP_238 (Nat.le_of_ble_eq_true rfl) (fun _ => rfl) (k_f_Calendarhall_deviceNumbered O f (d + 0) v0 v1 M) (fun x1 M1 => ?_)
  refine xZ.adv (me := xm241) hP_241 4 (pc' := 11) (lv' := [(4, .ref x1), (0, .ref v0), (1, .int (yw v1)), (2, .int (yw v2)), (3, .int (yw v3))]) (st' := [.int (11 : Int32), .int (0 : Int32), .int (yw v2)]) rfl ?_
  refine xZ.eqs (lv2 := [(4, .ref x1), (0, .ref v0), (1, .int (yw v1)), (2, .int (yw v2)), (3, .int (yw v3))]) (st2 := [.int (yw 11), .int (yw 0), .int (yw v2)]) rfl (by simp only [yl_lit, yL_lit, yw_add, yw_sub, yw_mul, yw_neg, yl_add, yl_sub, yl_mul, cj_and, cj_or, cj_xor, cj_shl, cj_shr, cj_ushr, cj_div, cj_i2c, cj_i2b, cj_dc, ck_and, ck_or, ck_xor, ck_shl, ck_shr, ck_ushr, ck_i2l, ck_l2i, ck_cmp]) ?_
  refine xZ.calls (κ := oU) (av := [.int (yw v2), .int (yw 0), .int (yw 11)]) (rest := []) (st' := fun _ => []) (me := xm241) hP_241 rfl rfl rfl (Nat.le_of_ble_eq_true rfl) (by decide) hP_22 (Nat.le_of_ble_eq_true rfl) (fun _ => rfl) (k_f_Calendarhall_needRange O f (d + 1) v2 0 11 M1) (fun _ M2 => ?_)
  refine xZ.adv (me := xm241) hP_241 3 (pc' := 17) (lv' := [(4, .ref x1), (0, .ref v0), (1, .int (yw v1)), (2, .int (yw v2)), (3, .int (yw v3))]) (st' := [.int (3 : Int32), .int (0 : Int32), .int (yw v3)]) rfl ?_
  refine xZ.eqs (lv2 := [(4, .ref x1), (0, .ref v0), (1, .int (yw v1)), (2, .int (yw v2)), (3, .int (yw v3))]) (st2 := [.int (yw 3), .int (yw 0), .int (yw v3)]) rfl (by simp only [yl_lit, yL_lit, yw_add, yw_sub, yw_mul, yw_neg, yl_add, yl_sub, yl_mul, cj_and, cj_or, cj_xor, cj_shl, cj_shr, cj_ushr, cj_div, cj_i2c, cj_i2b, cj_dc, ck_and, ck_or, ck_xor, ck_shl, ck_shr, ck_ushr, ck_i2l, ck_l2i, ck_cmp]) ?_
  refine xZ.calls (κ := oU) (av := [.int (yw v3), .int (yw 0), .int (yw 3)]) (rest := []) (st' := fun _ => []) (me := xm241) hP_241 rfl rfl rfl (Nat.le_of_ble_eq_true rfl) (by decide) hP_22 (Nat.le_of_ble_eq_true rfl) (fun _ => rfl) (k_f_Calendarhall_needRange O f (d + 1) v3 0 3 M2) (fun _ M3 => ?_)
  refine xZ.adv (me := xm241) hP_241 6 (pc' := 27) (lv' := [(4, .ref x1), (0, .ref v0), (1, .int (yw v1)), (2, .int (yw v2)), (3, .int (yw v3))]) (st' := [.int (((yw v2) * (4 : Int32)) + (yw v3)), .ref x1]) rfl ?_
  refine xZ.eqs (lv2 := [(4, .ref x1), (0, .ref v0), (1, .int (yw v1)), (2, .int (yw v2)), (3, .int (yw v3))]) (st2 := [.int (yw ((v2 * 4) + v3)), .ref x1]) rfl (by simp only [yl_lit, yL_lit, yw_add, yw_sub, yw_mul, yw_neg, yl_add, yl_sub, yl_mul, cj_and, cj_or, cj_xor, cj_shl, cj_shr, cj_ushr, cj_div, cj_i2c, cj_i2b, cj_dc, ck_and, ck_or, ck_xor, ck_shl, ck_shr, ck_ushr, ck_i2l, ck_l2i, ck_cmp]) ?_
  refine xZ.callv (κ := oJ) (av := [.int (yw ((v2 * 4) + v3))]) (rest := []) (st' := fun x4 => [.int (yw x4)]) (k0 := x1) (me := xm241) hP_241 rfl (Or.inl rfl) ⟨rfl, by decide⟩ rfl rfl (Nat.le_of_ble_eq_true rfl) (by decide) hP_242 (Nat.le_of_ble_eq_true rfl) (fun _ => rfl) (k_f_Device_valueAt O f (d + 1) x1 ((v2 * 4) + v3) M3) (fun x4 M4 => ?_)
  exact xZ.jreti (me := xm241) hP_241 rfl rfl
def f_Device_receive (O : Nat → Option va_E) (f : Nat) (v0 : Nat) (v1 : Nat) (v2 : Int) (v3 : Int) (M : xM) : Option (Unit × xM) :=
  if yw v3 < yw 0 then (
    some ((), M)
  ) else
  if yw v3 < yw 40 then (
    (gJ O M v0 3 0).bind fun x1 =>
    (gR O M v1 3 4).bind fun x2 =>
    (aJ O M x2 v3).bind fun x3 =>
    xcl (f_Math_max O f x1 x3 M) fun x4 M1 =>
    (pJ M1 v0 3 0 x4).bind fun M2 =>
    (gR O M2 v1 3 2).bind fun x5 =>
    (aJ O M2 x5 v3).bind fun x6 =>
    (gR O M2 v1 3 3).bind fun x7 =>
    (aJ O M2 x7 v3).bind fun x8 =>
    (gR O M2 v1 3 4).bind fun x9 =>
    (aJ O M2 x9 v3).bind fun x10 =>
    (isO O M2 v0 3).bind fun _ =>
    xcl (f_Device_show O f v0 v2 x6 x8 x10 M2) fun _ M3 =>
    some ((), M3)
  ) else
  some ((), M)
set_option maxRecDepth 20000 in
theorem k_f_Device_receive (O : Nat → Option va_E) (f d : Nat) (v0 : Nat) (v1 : Nat) (v2 : Int) (v3 : Int) (M : xM) : xZ oU O (d + 1) 244 0 [(0, .ref v0), (1, .ref v1), (2, .int (yw v2)), (3, .int (yw v3))] [] M (f_Device_receive O f v0 v1 v2 v3 M) := by
  unfold f_Device_receive
  refine xZ.adv (me := xm244) hP_244 1 (pc' := 1) (lv' := [(0, .ref v0), (1, .ref v1), (2, .int (yw v2)), (3, .int (yw v3))]) (st' := [.int (yw v3)]) rfl ?_
  refine xZ.jf_lt (me := xm244) hP_244 rfl (fun h1 => ?_) (fun h1 => ?_)
  · skip
    exact xZ.retu (me := xm244) hP_244 rfl rfl
  · skip
    refine xZ.adv (me := xm244) hP_244 2 (pc' := 7) (lv' := [(0, .ref v0), (1, .ref v1), (2, .int (yw v2)), (3, .int (yw v3))]) (st' := [.int (40 : Int32), .int (yw v3)]) rfl ?_
    refine xZ.eqs (lv2 := [(0, .ref v0), (1, .ref v1), (2, .int (yw v2)), (3, .int (yw v3))]) (st2 := [.int (yw 40), .int (yw v3)]) rfl (by simp only [yl_lit, yL_lit, yw_add, yw_sub, yw_mul, yw_neg, yl_add, yl_sub, yl_mul, cj_and, cj_or, cj_xor, cj_shl, cj_shr, cj_ushr, cj_div, cj_i2c, cj_i2b, cj_dc, ck_and, ck_or, ck_xor, ck_shl, ck_shr, ck_ushr, ck_i2l, ck_l2i, ck_cmp]) ?_
    refine xZ.jc_lt (me := xm244) hP_244 rfl (fun h2 => ?_) (fun h2 => ?_)
    · skip
      refine xZ.adv (me := xm244) hP_244 2 (pc' := 13) (lv' := [(0, .ref v0), (1, .ref v1), (2, .int (yw v2)), (3, .int (yw v3))]) (st' := [.ref v0, .ref v0]) rfl ?_
      refine xZ.k_gJ (me := xm244) hP_244 rfl (fun x1 => ?_)
      refine xZ.adv (me := xm244) hP_244 1 (pc' := 17) (lv' := [(0, .ref v0), (1, .ref v1), (2, .int (yw v2)), (3, .int (yw v3))]) (st' := [.ref v1, .int (yw x1), .ref v0]) rfl ?_
      refine xZ.k_gR (me := xm244) hP_244 rfl (fun x2 => ?_)
      refine xZ.adv (me := xm244) hP_244 1 (pc' := 21) (lv' := [(0, .ref v0), (1, .ref v1), (2, .int (yw v2)), (3, .int (yw v3))]) (st' := [.int (yw v3), .ref x2, .int (yw x1), .ref v0]) rfl ?_
      refine xZ.k_aJ (me := xm244) hP_244 rfl (fun x3 => ?_)
      refine xZ.calls (κ := oJ) (av := [.int (yw x1), .int (yw x3)]) (rest := [.ref v0]) (st' := fun x4 => [.int (yw x4), .ref v0]) (me := xm244) hP_244 rfl rfl rfl (Nat.le_of_ble_eq_true rfl) (by decide) hP_247 (Nat.le_of_ble_eq_true rfl) (fun _ => rfl) (k_f_Math_max O f (d + 0) x1 x3 M) (fun x4 M1 => ?_)
      refine xZ.k_pJ (me := xm244) hP_244 rfl (fun M2 => ?_)
      refine xZ.adv (me := xm244) hP_244 3 (pc' := 31) (lv' := [(0, .ref v0), (1, .ref v1), (2, .int (yw v2)), (3, .int (yw v3))]) (st' := [.ref v1, .int (yw v2), .ref v0]) rfl ?_
      refine xZ.k_gR (me := xm244) hP_244 rfl (fun x5 => ?_)
      refine xZ.adv (me := xm244) hP_244 1 (pc' := 35) (lv' := [(0, .ref v0), (1, .ref v1), (2, .int (yw v2)), (3, .int (yw v3))]) (st' := [.int (yw v3), .ref x5, .int (yw v2), .ref v0]) rfl ?_
      refine xZ.k_aJ (me := xm244) hP_244 rfl (fun x6 => ?_)
      refine xZ.adv (me := xm244) hP_244 1 (pc' := 37) (lv' := [(0, .ref v0), (1, .ref v1), (2, .int (yw v2)), (3, .int (yw v3))]) (st' := [.ref v1, .int (yw x6), .int (yw v2), .ref v0]) rfl ?_
      refine xZ.k_gR (me := xm244) hP_244 rfl (fun x7 => ?_)
      refine xZ.adv (me := xm244) hP_244 1 (pc' := 41) (lv' := [(0, .ref v0), (1, .ref v1), (2, .int (yw v2)), (3, .int (yw v3))]) (st' := [.int (yw v3), .ref x7, .int (yw x6), .int (yw v2), .ref v0]) rfl ?_
      refine xZ.k_aJ (me := xm244) hP_244 rfl (fun x8 => ?_)
      refine xZ.adv (me := xm244) hP_244 1 (pc' := 43) (lv' := [(0, .ref v0), (1, .ref v1), (2, .int (yw v2)), (3, .int (yw v3))]) (st' := [.ref v1, .int (yw x8), .int (yw x6), .int (yw v2), .ref v0]) rfl ?_
      refine xZ.k_gR (me := xm244) hP_244 rfl (fun x9 => ?_)
      refine xZ.adv (me := xm244) hP_244 1 (pc' := 47) (lv' := [(0, .ref v0), (1, .ref v1), (2, .int (yw v2)), (3, .int (yw v3))]) (st' := [.int (yw v3), .ref x9, .int (yw x8), .int (yw x6), .int (yw v2), .ref v0]) rfl ?_
      refine xZ.k_aJ (me := xm244) hP_244 rfl (fun x10 => ?_)
      refine xZ.callv (κ := oU) (av := [.int (yw v2), .int (yw x6), .int (yw x8), .int (yw x10)]) (rest := []) (st' := fun _ => []) (k0 := v0) (me := xm244) hP_244 rfl (Or.inl rfl) ⟨rfl, by decide⟩ rfl rfl (Nat.le_of_ble_eq_true rfl) (by decide) hP_240 (Nat.le_of_ble_eq_true rfl) (fun _ => rfl) (k_f_Device_show O f (d + 0) v0 v2 x6 x8 x10 M2) (fun _ M3 => ?_)
      exact xZ.retu (me := xm244) hP_244 rfl rfl
    · skip
      exact xZ.retu (me := xm244) hP_244 rfl rfl
def f_Calendarhall_deliver (O : Nat → Option va_E) (f : Nat) (v0 : Nat) (v1 : Int) (v2 : Int) (M : xM) : Option (Int × xM) :=
  (isO O M v0 12).bind fun _ =>
  xcl (f_Calendarhall_deviceNumbered O f v0 v1 M) fun x1 M1 =>
  if yw v2 < yw 0 then (
    none
  ) else
  (gJ O M1 x1 3 1).bind fun x2 =>
  if yw v2 < yw x2 then (
    (isO O M1 v0 12).bind fun _ =>
    xcl (f_Calendarhall_deviceNumbered O f v0 (1 - v1) M1) fun x3 M2 =>
    (isO O M2 v0 12).bind fun _ =>
    xcl (f_Calendarhall_saveForUndo O f v0 M2) fun _ M3 =>
    (isO O M3 x3 3).bind fun _ =>
    xcl (f_Device_receive O f x3 x1 v1 v2 M3) fun _ M4 =>
    (gJ O M4 x3 3 0).bind fun x6 =>
    some (x6, M4)
  ) else
  none
set_option maxRecDepth 20000 in
theorem k_f_Calendarhall_deliver (O : Nat → Option va_E) (f d : Nat) (v0 : Nat) (v1 : Int) (v2 : Int) (M : xM) : xZ oJ O (d + 5) 243 0 [(0, .ref v0), (1, .int (yw v1)), (2, .int (yw v2))] [] M (f_Calendarhall_deliver O f v0 v1 v2 M) := by
  unfold f_Calendarhall_deliver
  refine xZ.adv (me := xm243) hP_243 2 (pc' := 2) (lv' := [(0, .ref v0), (1, .int (yw v1)), (2, .int (yw v2))]) (st' := [.int (yw v1), .ref v0]) rfl ?_
  refine xZ.callv (κ := oR) (av := [.int (yw v1)]) (rest := []) (st' := fun x1 => [.ref x1]) (k0 := v0) (me := xm243) hP_243 rfl (Or.inl rfl) ⟨rfl, by decide⟩ rfl rfl (Nat.le_of_ble_eq_true rfl) (by decide) hP_238 (Nat.le_of_ble_eq_true rfl) (fun _ => rfl) (k_f_Calendarhall_deviceNumbered O f (d + 3) v0 v1 M) (fun x1 M1 => ?_)
  refine xZ.adv (me := xm243) hP_243 2 (pc' := 7) (lv' := [(3, .ref x1), (0, .ref v0), (1, .int (yw v1)), (2, .int (yw v2))]) (st' := [.int (yw v2)]) rfl ?_
  refine xZ.jf_lt (me := xm243) hP_243 rfl (fun h1 => ?_) (fun h1 => ?_)
  · skip
    exact xZ.no
  · skip
    refine xZ.adv (me := xm243) hP_243 2 (pc' := 12) (lv' := [(3, .ref x1), (0, .ref v0), (1, .int (yw v1)), (2, .int (yw v2))]) (st' := [.ref x1, .int (yw v2)]) rfl ?_
    refine xZ.k_gJ (me := xm243) hP_243 rfl (fun x2 => ?_)
    refine xZ.jc_lt (me := xm243) hP_243 rfl (fun h2 => ?_) (fun h2 => ?_)
    · skip
      refine xZ.adv (me := xm243) hP_243 4 (pc' := 30) (lv' := [(3, .ref x1), (0, .ref v0), (1, .int (yw v1)), (2, .int (yw v2))]) (st' := [.int ((1 : Int32) - (yw v1)), .ref v0]) rfl ?_
      refine xZ.eqs (lv2 := [(3, .ref x1), (0, .ref v0), (1, .int (yw v1)), (2, .int (yw v2))]) (st2 := [.int (yw (1 - v1)), .ref v0]) rfl (by simp only [yl_lit, yL_lit, yw_add, yw_sub, yw_mul, yw_neg, yl_add, yl_sub, yl_mul, cj_and, cj_or, cj_xor, cj_shl, cj_shr, cj_ushr, cj_div, cj_i2c, cj_i2b, cj_dc, ck_and, ck_or, ck_xor, ck_shl, ck_shr, ck_ushr, ck_i2l, ck_l2i, ck_cmp]) ?_
      refine xZ.callv (κ := oR) (av := [.int (yw (1 - v1))]) (rest := []) (st' := fun x3 => [.ref x3]) (k0 := v0) (me := xm243) hP_243 rfl (Or.inl rfl) ⟨rfl, by decide⟩ rfl rfl (Nat.le_of_ble_eq_true rfl) (by decide) hP_238 (Nat.le_of_ble_eq_true rfl) (fun _ => rfl) (k_f_Calendarhall_deviceNumbered O f (d + 3) v0 (1 - v1) M1) (fun x3 M2 => ?_)
      refine xZ.adv (me := xm243) hP_243 2 (pc' := 36) (lv' := [(4, .ref x3), (3, .ref x1), (0, .ref v0), (1, .int (yw v1)), (2, .int (yw v2))]) (st' := [.ref v0]) rfl ?_
      refine xZ.callv (κ := oU) (av := []) (rest := []) (st' := fun _ => []) (k0 := v0) (me := xm243) hP_243 rfl (Or.inl rfl) ⟨rfl, by decide⟩ rfl rfl (Nat.le_of_ble_eq_true rfl) (by decide) hP_23 (Nat.le_of_ble_eq_true rfl) (fun _ => rfl) (k_f_Calendarhall_saveForUndo O f (d + 0) v0 M2) (fun _ M3 => ?_)
      refine xZ.adv (me := xm243) hP_243 4 (pc' := 44) (lv' := [(4, .ref x3), (3, .ref x1), (0, .ref v0), (1, .int (yw v1)), (2, .int (yw v2))]) (st' := [.int (yw v2), .int (yw v1), .ref x1, .ref x3]) rfl ?_
      refine xZ.callv (κ := oU) (av := [.ref x1, .int (yw v1), .int (yw v2)]) (rest := []) (st' := fun _ => []) (k0 := x3) (me := xm243) hP_243 rfl (Or.inl rfl) ⟨rfl, by decide⟩ rfl rfl (Nat.le_of_ble_eq_true rfl) (by decide) hP_244 (Nat.le_of_ble_eq_true rfl) (fun _ => rfl) (k_f_Device_receive O f (d + 3) x3 x1 v1 v2 M3) (fun _ M4 => ?_)
      refine xZ.adv (me := xm243) hP_243 1 (pc' := 49) (lv' := [(4, .ref x3), (3, .ref x1), (0, .ref v0), (1, .int (yw v1)), (2, .int (yw v2))]) (st' := [.ref x3]) rfl ?_
      refine xZ.k_gJ (me := xm243) hP_243 rfl (fun x6 => ?_)
      exact xZ.jreti (me := xm243) hP_243 rfl rfl
    · skip
      exact xZ.no
def f_Law_gcd (O : Nat → Option va_E) (f : Nat) : Nat → Int → Int → xM → Option (Int × xM)
  | 0, _, _, _ => none
  | n + 1, v0, v1, M =>
    if yw v1 = yw 0 then (
      some (v0, M)
    ) else
    if yw v1 = yw 0 then none else xlet (v0 - (jdiv v0 v1) * v1) fun x1 =>
    xcl (f_Law_gcd O f n v1 x1 M) fun x2 M1 =>
    some (x2, M1)
set_option maxRecDepth 20000 in
theorem k_f_Law_gcd (O : Nat → Option va_E) (f : Nat) : ∀ (n d : Nat) (v0 : Int) (v1 : Int) (M : xM), xZ oJ O (d + n + 1) 245 0 [(0, .int (yw v0)), (1, .int (yw v1))] [] M (f_Law_gcd O f n v0 v1 M) := by
  intro n
  induction n with
  | zero =>
    intro d v0 v1 M
    exact xZ.no
  | succ n ih =>
    intro d v0 v1 M
    have hKS : ∀ (v0 : Int) (v1 : Int) M, xZ oJ O (d + n + 1) 245 0 [(0, .int (yw v0)), (1, .int (yw v1))] [] M (f_Law_gcd O f n v0 v1 M) := fun v0 v1 M => ih d v0 v1 M
    unfold f_Law_gcd
    refine xZ.adv (me := xm245) hP_245 1 (pc' := 1) (lv' := [(0, .int (yw v0)), (1, .int (yw v1))]) (st' := [.int (yw v1)]) rfl ?_
    refine xZ.jf_ne (me := xm245) hP_245 rfl (fun h1 => ?_) (fun h1 => ?_)
    · skip
      refine xZ.adv (me := xm245) hP_245 2 (pc' := 15) (lv' := [(0, .int (yw v0)), (1, .int (yw v1))]) (st' := [.int (yw v0)]) rfl ?_
      exact xZ.jreti (me := xm245) hP_245 rfl rfl
    · skip
      refine xZ.adv (me := xm245) hP_245 3 (pc' := 11) (lv' := [(0, .int (yw v0)), (1, .int (yw v1))]) (st' := [.int (yw v1), .int (yw v0), .int (yw v1)]) rfl ?_
      refine xZ.k_jrem (me := xm245) hP_245 rfl (fun x1 => ?_)
      refine xZ.calls (κ := oJ) (av := [.int (yw v1), .int (yw x1)]) (rest := []) (st' := fun x2 => [.int (yw x2)]) (me := xm245) hP_245 rfl rfl rfl (Nat.le_of_ble_eq_true rfl) (by decide) hP_245 (Nat.le_of_ble_eq_true rfl) (fun _ => rfl) (hKS v1 x1 M) (fun x2 M1 => ?_)
      exact xZ.jreti (me := xm245) hP_245 rfl rfl
def f_Calendarhall_areAlike_14 (O : Nat → Option va_E) (f : Nat) : Nat → Nat → Nat → Int → xM → Option (Int × xM)
  | 0, _, _, _, _ => none
  | n + 1, v1, v2, v3, M =>
    if yw 48 ≤ yw v3 then (
      some (1, M)
    ) else
    (isO O M v1 3).bind fun _ =>
    xcl (f_Device_valueAt O f v1 v3 M) fun x1 M1 =>
    (isO O M1 v2 3).bind fun _ =>
    xcl (f_Device_valueAt O f v2 v3 M1) fun x2 M2 =>
    if yw x1 = yw x2 then (
      f_Calendarhall_areAlike_14 O f n v1 v2 (v3 + 1) M2
    ) else
    some (0, M2)
set_option maxRecDepth 20000 in
theorem k_f_Calendarhall_areAlike_14 (O : Nat → Option va_E) (f d : Nat) : ∀ (n : Nat) (v1 : Nat) (v2 : Nat) (v3 : Int) (M : xM), xZ oJ O (d + 2) 246 14 [(1, .ref v1), (2, .ref v2), (3, .int (yw v3))] [] M (f_Calendarhall_areAlike_14 O f n v1 v2 v3 M) := by
  intro n
  induction n with
  | zero =>
    intro v1 v2 v3 M
    exact xZ.no
  | succ n ih =>
    intro v1 v2 v3 M
    unfold f_Calendarhall_areAlike_14
    refine xZ.adv (me := xm246) hP_246 2 (pc' := 17) (lv' := [(1, .ref v1), (2, .ref v2), (3, .int (yw v3))]) (st' := [.int (48 : Int32), .int (yw v3)]) rfl ?_
    refine xZ.eqs (lv2 := [(1, .ref v1), (2, .ref v2), (3, .int (yw v3))]) (st2 := [.int (yw 48), .int (yw v3)]) rfl (by simp only [yl_lit, yL_lit, yw_add, yw_sub, yw_mul, yw_neg, yl_add, yl_sub, yl_mul, cj_and, cj_or, cj_xor, cj_shl, cj_shr, cj_ushr, cj_div, cj_i2c, cj_i2b, cj_dc, ck_and, ck_or, ck_xor, ck_shl, ck_shr, ck_ushr, ck_i2l, ck_l2i, ck_cmp]) ?_
    refine xZ.jc_ge (me := xm246) hP_246 rfl (fun h1 => ?_) (fun h1 => ?_)
    · skip
      refine xZ.adv (me := xm246) hP_246 1 (pc' := 42) (lv' := [(1, .ref v1), (2, .ref v2), (3, .int (yw v3))]) (st' := [.int (1 : Int32)]) rfl ?_
      refine xZ.eqs (lv2 := [(1, .ref v1), (2, .ref v2), (3, .int (yw v3))]) (st2 := [.int (yw 1)]) rfl (by simp only [yl_lit, yL_lit, yw_add, yw_sub, yw_mul, yw_neg, yl_add, yl_sub, yl_mul, cj_and, cj_or, cj_xor, cj_shl, cj_shr, cj_ushr, cj_div, cj_i2c, cj_i2b, cj_dc, ck_and, ck_or, ck_xor, ck_shl, ck_shr, ck_ushr, ck_i2l, ck_l2i, ck_cmp]) ?_
      exact xZ.jrete (me := xm246) hP_246 rfl rfl rfl
    · skip
      refine xZ.adv (me := xm246) hP_246 2 (pc' := 22) (lv' := [(1, .ref v1), (2, .ref v2), (3, .int (yw v3))]) (st' := [.int (yw v3), .ref v1]) rfl ?_
      refine xZ.callv (κ := oJ) (av := [.int (yw v3)]) (rest := []) (st' := fun x1 => [.int (yw x1)]) (k0 := v1) (me := xm246) hP_246 rfl (Or.inl rfl) ⟨rfl, by decide⟩ rfl rfl (Nat.le_of_ble_eq_true rfl) (by decide) hP_242 (Nat.le_of_ble_eq_true rfl) (fun _ => rfl) (k_f_Device_valueAt O f (d + 1) v1 v3 M) (fun x1 M1 => ?_)
      refine xZ.adv (me := xm246) hP_246 2 (pc' := 27) (lv' := [(1, .ref v1), (2, .ref v2), (3, .int (yw v3))]) (st' := [.int (yw v3), .ref v2, .int (yw x1)]) rfl ?_
      refine xZ.callv (κ := oJ) (av := [.int (yw v3)]) (rest := [.int (yw x1)]) (st' := fun x2 => [.int (yw x2), .int (yw x1)]) (k0 := v2) (me := xm246) hP_246 rfl (Or.inl rfl) ⟨rfl, by decide⟩ rfl rfl (Nat.le_of_ble_eq_true rfl) (by decide) hP_242 (Nat.le_of_ble_eq_true rfl) (fun _ => rfl) (k_f_Device_valueAt O f (d + 1) v2 v3 M1) (fun x2 M2 => ?_)
      refine xZ.jc_eq (me := xm246) hP_246 rfl (fun h2 => ?_) (fun h2 => ?_)
      · skip
        refine xZ.adv (me := xm246) hP_246 2 (pc' := 14) (lv' := [(3, .int ((yw v3) + (1 : Int32))), (1, .ref v1), (2, .ref v2)]) (st' := []) rfl ?_
        refine xZ.eqs (lv2 := [(3, .int (yw (v3 + 1))), (1, .ref v1), (2, .ref v2)]) (st2 := []) (by simp only [yl_lit, yL_lit, yw_add, yw_sub, yw_mul, yw_neg, yl_add, yl_sub, yl_mul, cj_and, cj_or, cj_xor, cj_shl, cj_shr, cj_ushr, cj_div, cj_i2c, cj_i2b, cj_dc, ck_and, ck_or, ck_xor, ck_shl, ck_shr, ck_ushr, ck_i2l, ck_l2i, ck_cmp]) rfl ?_
        exact xZ.sub (xsc (.tail _ (.head _)) (xsc (.tail _ (.tail _ (.head _))) (xsc (.head _) xsn))) (show ([3, 1, 2] : List Nat).Nodup from by decide) (ih v1 v2 (v3 + 1) M2)
      · skip
        refine xZ.adv (me := xm246) hP_246 1 (pc' := 34) (lv' := [(1, .ref v1), (2, .ref v2), (3, .int (yw v3))]) (st' := [.int (0 : Int32)]) rfl ?_
        refine xZ.eqs (lv2 := [(1, .ref v1), (2, .ref v2), (3, .int (yw v3))]) (st2 := [.int (yw 0)]) rfl (by simp only [yl_lit, yL_lit, yw_add, yw_sub, yw_mul, yw_neg, yl_add, yl_sub, yl_mul, cj_and, cj_or, cj_xor, cj_shl, cj_shr, cj_ushr, cj_div, cj_i2c, cj_i2b, cj_dc, ck_and, ck_or, ck_xor, ck_shl, ck_shr, ck_ushr, ck_i2l, ck_l2i, ck_cmp]) ?_
        exact xZ.jrete (me := xm246) hP_246 rfl rfl rfl
def f_Calendarhall_areAlike (O : Nat → Option va_E) (f : Nat) (v0 : Nat) (M : xM) : Option (Int × xM) :=
  (isO O M v0 12).bind fun _ =>
  xcl (f_Calendarhall_deviceNumbered O f v0 0 M) fun x1 M1 =>
  (isO O M1 v0 12).bind fun _ =>
  xcl (f_Calendarhall_deviceNumbered O f v0 1 M1) fun x2 M2 =>
  f_Calendarhall_areAlike_14 O f f x1 x2 0 M2
set_option maxRecDepth 20000 in
theorem k_f_Calendarhall_areAlike (O : Nat → Option va_E) (f d : Nat) (v0 : Nat) (M : xM) : xZ oJ O (d + 2) 246 0 [(0, .ref v0)] [] M (f_Calendarhall_areAlike O f v0 M) := by
  unfold f_Calendarhall_areAlike
  refine xZ.adv (me := xm246) hP_246 2 (pc' := 2) (lv' := [(0, .ref v0)]) (st' := [.int (0 : Int32), .ref v0]) rfl ?_
  refine xZ.eqs (lv2 := [(0, .ref v0)]) (st2 := [.int (yw 0), .ref v0]) rfl (by simp only [yl_lit, yL_lit, yw_add, yw_sub, yw_mul, yw_neg, yl_add, yl_sub, yl_mul, cj_and, cj_or, cj_xor, cj_shl, cj_shr, cj_ushr, cj_div, cj_i2c, cj_i2b, cj_dc, ck_and, ck_or, ck_xor, ck_shl, ck_shr, ck_ushr, ck_i2l, ck_l2i, ck_cmp]) ?_
  refine xZ.callv (κ := oR) (av := [.int (yw 0)]) (rest := []) (st' := fun x1 => [.ref x1]) (k0 := v0) (me := xm246) hP_246 rfl (Or.inl rfl) ⟨rfl, by decide⟩ rfl rfl (Nat.le_of_ble_eq_true rfl) (by decide) hP_238 (Nat.le_of_ble_eq_true rfl) (fun _ => rfl) (k_f_Calendarhall_deviceNumbered O f (d + 0) v0 0 M) (fun x1 M1 => ?_)
  refine xZ.adv (me := xm246) hP_246 3 (pc' := 8) (lv' := [(1, .ref x1), (0, .ref v0)]) (st' := [.int (1 : Int32), .ref v0]) rfl ?_
  refine xZ.eqs (lv2 := [(1, .ref x1), (0, .ref v0)]) (st2 := [.int (yw 1), .ref v0]) rfl (by simp only [yl_lit, yL_lit, yw_add, yw_sub, yw_mul, yw_neg, yl_add, yl_sub, yl_mul, cj_and, cj_or, cj_xor, cj_shl, cj_shr, cj_ushr, cj_div, cj_i2c, cj_i2b, cj_dc, ck_and, ck_or, ck_xor, ck_shl, ck_shr, ck_ushr, ck_i2l, ck_l2i, ck_cmp]) ?_
  refine xZ.callv (κ := oR) (av := [.int (yw 1)]) (rest := []) (st' := fun x2 => [.ref x2]) (k0 := v0) (me := xm246) hP_246 rfl (Or.inl rfl) ⟨rfl, by decide⟩ rfl rfl (Nat.le_of_ble_eq_true rfl) (by decide) hP_238 (Nat.le_of_ble_eq_true rfl) (fun _ => rfl) (k_f_Calendarhall_deviceNumbered O f (d + 0) v0 1 M1) (fun x2 M2 => ?_)
  refine xZ.adv (me := xm246) hP_246 3 (pc' := 14) (lv' := [(3, .int (0 : Int32)), (2, .ref x2), (1, .ref x1), (0, .ref v0)]) (st' := []) rfl ?_
  refine xZ.eqs (lv2 := [(3, .int (yw 0)), (2, .ref x2), (1, .ref x1), (0, .ref v0)]) (st2 := []) (by simp only [yl_lit, yL_lit, yw_add, yw_sub, yw_mul, yw_neg, yl_add, yl_sub, yl_mul, cj_and, cj_or, cj_xor, cj_shl, cj_shr, cj_ushr, cj_div, cj_i2c, cj_i2b, cj_dc, ck_and, ck_or, ck_xor, ck_shl, ck_shr, ck_ushr, ck_i2l, ck_l2i, ck_cmp]) rfl ?_
  exact xZ.sub (xsc (.tail _ (.tail _ (.head _))) (xsc (.tail _ (.head _)) (xsc (.head _) xsn))) (show ([3, 2, 1, 0] : List Nat).Nodup from by decide) (k_f_Calendarhall_areAlike_14 O f d f x1 x2 0 M2)
def f_Law_areAlike_381 (O : Nat → Option va_E) (f : Nat) (K329 : Nat → Nat → Nat → Int → xM → Option (Int × xM)) (v0 : Nat) (v3 : Nat) (v4 : Nat) (v6 : Int) (s0 : Int) (M : xM) : Option (Int × xM) :=
  (isO O M v0 12).bind fun _ =>
  xcl (f_Calendarhall_shown O f v0 0 (jdiv v6 4) (v6 - (jdiv v6 4) * 4) M) fun x1 M1 =>
  if yw x1 = yw s0 then (
    (isO O M1 v0 12).bind fun _ =>
    xcl (f_Calendarhall_shown O f v0 1 (jdiv v6 4) (v6 - (jdiv v6 4) * 4) M1) fun x2 M2 =>
    if yw x2 = yw s0 then (
      K329 v0 v3 v4 (v6 + 1) M2
    ) else
    some (0, M2)
  ) else
  some (0, M1)
set_option maxRecDepth 20000 in
theorem k_f_Law_areAlike_381 (O : Nat → Option va_E) (f d : Nat) (K329 : Nat → Nat → Nat → Int → xM → Option (Int × xM)) (hK329 : ∀ (v0 : Nat) (v3 : Nat) (v4 : Nat) (v6 : Int) M, xZ oJ O (d + 66) 236 329 [(0, .ref v0), (3, .ref v3), (4, .ref v4), (6, .int (yw v6))] [] M (K329 v0 v3 v4 v6 M)) (v0 : Nat) (v3 : Nat) (v4 : Nat) (v6 : Int) (s0 : Int) (M : xM) : xZ oJ O (d + 66) 236 381 [(0, .ref v0), (3, .ref v3), (4, .ref v4), (6, .int (yw v6))] [.int (yw s0)] M (f_Law_areAlike_381 O f K329 v0 v3 v4 v6 s0 M) := by
  unfold f_Law_areAlike_381
  refine xZ.adv (me := xm236) hP_236 9 (pc' := 393) (lv' := [(8, .int (yw s0)), (0, .ref v0), (3, .ref v3), (4, .ref v4), (6, .int (yw v6))]) (st' := [.int ((yw v6) - (yw v6) / (4 : Int32) * (4 : Int32)), .int ((yw v6) / (4 : Int32)), .int (0 : Int32), .ref v0]) rfl ?_
  refine xZ.eqs (lv2 := [(8, .int (yw s0)), (0, .ref v0), (3, .ref v3), (4, .ref v4), (6, .int (yw v6))]) (st2 := [.int (yw (v6 - (jdiv v6 4) * 4)), .int (yw (jdiv v6 4)), .int (yw 0), .ref v0]) rfl (by simp only [yl_lit, yL_lit, yw_add, yw_sub, yw_mul, yw_neg, yl_add, yl_sub, yl_mul, cj_and, cj_or, cj_xor, cj_shl, cj_shr, cj_ushr, cj_div, cj_i2c, cj_i2b, cj_dc, ck_and, ck_or, ck_xor, ck_shl, ck_shr, ck_ushr, ck_i2l, ck_l2i, ck_cmp]) ?_
  refine xZ.callv (κ := oJ) (av := [.int (yw 0), .int (yw (jdiv v6 4)), .int (yw (v6 - (jdiv v6 4) * 4))]) (rest := []) (st' := fun x1 => [.int (yw x1)]) (k0 := v0) (me := xm236) hP_236 rfl (Or.inl rfl) ⟨rfl, by decide⟩ rfl rfl (Nat.le_of_ble_eq_true rfl) (by decide) hP_241 (Nat.le_of_ble_eq_true rfl) (fun _ => rfl) (k_f_Calendarhall_shown O f (d + 63) v0 0 (jdiv v6 4) (v6 - (jdiv v6 4) * 4) M) (fun x1 M1 => ?_)
  refine xZ.adv (me := xm236) hP_236 1 (pc' := 398) (lv' := [(8, .int (yw s0)), (0, .ref v0), (3, .ref v3), (4, .ref v4), (6, .int (yw v6))]) (st' := [.int (yw s0), .int (yw x1)]) rfl ?_
  refine xZ.jc_ne (me := xm236) hP_236 rfl (fun h1 => ?_) (fun h1 => ?_)
  · skip
    refine xZ.adv (me := xm236) hP_236 8 (pc' := 411) (lv' := [(8, .int (yw s0)), (0, .ref v0), (3, .ref v3), (4, .ref v4), (6, .int (yw v6))]) (st' := [.int ((yw v6) - (yw v6) / (4 : Int32) * (4 : Int32)), .int ((yw v6) / (4 : Int32)), .int (1 : Int32), .ref v0]) rfl ?_
    refine xZ.eqs (lv2 := [(8, .int (yw s0)), (0, .ref v0), (3, .ref v3), (4, .ref v4), (6, .int (yw v6))]) (st2 := [.int (yw (v6 - (jdiv v6 4) * 4)), .int (yw (jdiv v6 4)), .int (yw 1), .ref v0]) rfl (by simp only [yl_lit, yL_lit, yw_add, yw_sub, yw_mul, yw_neg, yl_add, yl_sub, yl_mul, cj_and, cj_or, cj_xor, cj_shl, cj_shr, cj_ushr, cj_div, cj_i2c, cj_i2b, cj_dc, ck_and, ck_or, ck_xor, ck_shl, ck_shr, ck_ushr, ck_i2l, ck_l2i, ck_cmp]) ?_
    refine xZ.callv (κ := oJ) (av := [.int (yw 1), .int (yw (jdiv v6 4)), .int (yw (v6 - (jdiv v6 4) * 4))]) (rest := []) (st' := fun x2 => [.int (yw x2)]) (k0 := v0) (me := xm236) hP_236 rfl (Or.inl rfl) ⟨rfl, by decide⟩ rfl rfl (Nat.le_of_ble_eq_true rfl) (by decide) hP_241 (Nat.le_of_ble_eq_true rfl) (fun _ => rfl) (k_f_Calendarhall_shown O f (d + 63) v0 1 (jdiv v6 4) (v6 - (jdiv v6 4) * 4) M1) (fun x2 M2 => ?_)
    refine xZ.adv (me := xm236) hP_236 1 (pc' := 416) (lv' := [(8, .int (yw s0)), (0, .ref v0), (3, .ref v3), (4, .ref v4), (6, .int (yw v6))]) (st' := [.int (yw s0), .int (yw x2)]) rfl ?_
    refine xZ.jc_eq (me := xm236) hP_236 rfl (fun h2 => ?_) (fun h2 => ?_)
    · skip
      refine xZ.adv (me := xm236) hP_236 2 (pc' := 329) (lv' := [(6, .int ((yw v6) + (1 : Int32))), (8, .int (yw s0)), (0, .ref v0), (3, .ref v3), (4, .ref v4)]) (st' := []) rfl ?_
      refine xZ.eqs (lv2 := [(6, .int (yw (v6 + 1))), (8, .int (yw s0)), (0, .ref v0), (3, .ref v3), (4, .ref v4)]) (st2 := []) (by simp only [yl_lit, yL_lit, yw_add, yw_sub, yw_mul, yw_neg, yl_add, yl_sub, yl_mul, cj_and, cj_or, cj_xor, cj_shl, cj_shr, cj_ushr, cj_div, cj_i2c, cj_i2b, cj_dc, ck_and, ck_or, ck_xor, ck_shl, ck_shr, ck_ushr, ck_i2l, ck_l2i, ck_cmp]) rfl ?_
      exact xZ.sub (xsc (.tail _ (.tail _ (.head _))) (xsc (.tail _ (.tail _ (.tail _ (.head _)))) (xsc (.tail _ (.tail _ (.tail _ (.tail _ (.head _))))) (xsc (.head _) xsn)))) (show ([6, 8, 0, 3, 4] : List Nat).Nodup from by decide) (hK329 v0 v3 v4 (v6 + 1) M2)
    · skip
      refine xZ.adv (me := xm236) hP_236 1 (pc' := 420) (lv' := [(8, .int (yw s0)), (0, .ref v0), (3, .ref v3), (4, .ref v4), (6, .int (yw v6))]) (st' := [.int (0 : Int32)]) rfl ?_
      refine xZ.eqs (lv2 := [(8, .int (yw s0)), (0, .ref v0), (3, .ref v3), (4, .ref v4), (6, .int (yw v6))]) (st2 := [.int (yw 0)]) rfl (by simp only [yl_lit, yL_lit, yw_add, yw_sub, yw_mul, yw_neg, yl_add, yl_sub, yl_mul, cj_and, cj_or, cj_xor, cj_shl, cj_shr, cj_ushr, cj_div, cj_i2c, cj_i2b, cj_dc, ck_and, ck_or, ck_xor, ck_shl, ck_shr, ck_ushr, ck_i2l, ck_l2i, ck_cmp]) ?_
      exact xZ.jrete (me := xm236) hP_236 rfl rfl rfl
  · skip
    refine xZ.adv (me := xm236) hP_236 1 (pc' := 420) (lv' := [(8, .int (yw s0)), (0, .ref v0), (3, .ref v3), (4, .ref v4), (6, .int (yw v6))]) (st' := [.int (0 : Int32)]) rfl ?_
    refine xZ.eqs (lv2 := [(8, .int (yw s0)), (0, .ref v0), (3, .ref v3), (4, .ref v4), (6, .int (yw v6))]) (st2 := [.int (yw 0)]) rfl (by simp only [yl_lit, yL_lit, yw_add, yw_sub, yw_mul, yw_neg, yl_add, yl_sub, yl_mul, cj_and, cj_or, cj_xor, cj_shl, cj_shr, cj_ushr, cj_div, cj_i2c, cj_i2b, cj_dc, ck_and, ck_or, ck_xor, ck_shl, ck_shr, ck_ushr, ck_i2l, ck_l2i, ck_cmp]) ?_
    exact xZ.jrete (me := xm236) hP_236 rfl rfl rfl
def f_Law_areAlike_356 (O : Nat → Option va_E) (f : Nat) (K329 : Nat → Nat → Nat → Int → xM → Option (Int × xM)) (v0 : Nat) (v3 : Nat) (v4 : Nat) (v6 : Int) (s0 : Int) (M : xM) : Option (Int × xM) :=
  (aJR O M v3 s0).bind fun x1 =>
  (aJ O M x1 v6).bind fun x2 =>
  if yw x2 = yw (-1) then (
    f_Law_areAlike_381 O f K329 v0 v3 v4 v6 (-1) M
  ) else
  (aJR O M v4 s0).bind fun x3 =>
  (aJ O M x3 v6).bind fun x4 =>
  f_Law_areAlike_381 O f K329 v0 v3 v4 v6 x4 M
set_option maxRecDepth 20000 in
theorem k_f_Law_areAlike_356 (O : Nat → Option va_E) (f d : Nat) (K329 : Nat → Nat → Nat → Int → xM → Option (Int × xM)) (hK329 : ∀ (v0 : Nat) (v3 : Nat) (v4 : Nat) (v6 : Int) M, xZ oJ O (d + 66) 236 329 [(0, .ref v0), (3, .ref v3), (4, .ref v4), (6, .int (yw v6))] [] M (K329 v0 v3 v4 v6 M)) (v0 : Nat) (v3 : Nat) (v4 : Nat) (v6 : Int) (s0 : Int) (M : xM) : xZ oJ O (d + 66) 236 356 [(0, .ref v0), (3, .ref v3), (4, .ref v4), (6, .int (yw v6))] [.int (yw s0)] M (f_Law_areAlike_356 O f K329 v0 v3 v4 v6 s0 M) := by
  unfold f_Law_areAlike_356
  refine xZ.adv (me := xm236) hP_236 3 (pc' := 361) (lv' := [(7, .int (yw s0)), (0, .ref v0), (3, .ref v3), (4, .ref v4), (6, .int (yw v6))]) (st' := [.int (yw s0), .ref v3]) rfl ?_
  refine xZ.k_aJR (me := xm236) hP_236 rfl (fun x1 => ?_)
  refine xZ.adv (me := xm236) hP_236 1 (pc' := 364) (lv' := [(7, .int (yw s0)), (0, .ref v0), (3, .ref v3), (4, .ref v4), (6, .int (yw v6))]) (st' := [.int (yw v6), .ref x1]) rfl ?_
  refine xZ.k_aJ (me := xm236) hP_236 rfl (fun x2 => ?_)
  refine xZ.adv (me := xm236) hP_236 1 (pc' := 366) (lv' := [(7, .int (yw s0)), (0, .ref v0), (3, .ref v3), (4, .ref v4), (6, .int (yw v6))]) (st' := [.int (-1 : Int32), .int (yw x2)]) rfl ?_
  refine xZ.eqs (lv2 := [(7, .int (yw s0)), (0, .ref v0), (3, .ref v3), (4, .ref v4), (6, .int (yw v6))]) (st2 := [.int (yw (-1)), .int (yw x2)]) rfl (by simp only [yl_lit, yL_lit, yw_add, yw_sub, yw_mul, yw_neg, yl_add, yl_sub, yl_mul, cj_and, cj_or, cj_xor, cj_shl, cj_shr, cj_ushr, cj_div, cj_i2c, cj_i2b, cj_dc, ck_and, ck_or, ck_xor, ck_shl, ck_shr, ck_ushr, ck_i2l, ck_l2i, ck_cmp]) ?_
  refine xZ.jc_ne (me := xm236) hP_236 rfl (fun h1 => ?_) (fun h1 => ?_)
  · skip
    refine xZ.adv (me := xm236) hP_236 2 (pc' := 381) (lv' := [(7, .int (yw s0)), (0, .ref v0), (3, .ref v3), (4, .ref v4), (6, .int (yw v6))]) (st' := [.int (-1 : Int32)]) rfl ?_
    refine xZ.eqs (lv2 := [(7, .int (yw s0)), (0, .ref v0), (3, .ref v3), (4, .ref v4), (6, .int (yw v6))]) (st2 := [.int (yw (-1))]) rfl (by simp only [yl_lit, yL_lit, yw_add, yw_sub, yw_mul, yw_neg, yl_add, yl_sub, yl_mul, cj_and, cj_or, cj_xor, cj_shl, cj_shr, cj_ushr, cj_div, cj_i2c, cj_i2b, cj_dc, ck_and, ck_or, ck_xor, ck_shl, ck_shr, ck_ushr, ck_i2l, ck_l2i, ck_cmp]) ?_
    exact xZ.sub (xsc (.tail _ (.head _)) (xsc (.tail _ (.tail _ (.head _))) (xsc (.tail _ (.tail _ (.tail _ (.head _)))) (xsc (.tail _ (.tail _ (.tail _ (.tail _ (.head _))))) xsn)))) (show ([7, 0, 3, 4, 6] : List Nat).Nodup from by decide) (k_f_Law_areAlike_381 O f d K329 hK329 v0 v3 v4 v6 (-1) M)
  · skip
    refine xZ.adv (me := xm236) hP_236 2 (pc' := 377) (lv' := [(7, .int (yw s0)), (0, .ref v0), (3, .ref v3), (4, .ref v4), (6, .int (yw v6))]) (st' := [.int (yw s0), .ref v4]) rfl ?_
    refine xZ.k_aJR (me := xm236) hP_236 rfl (fun x3 => ?_)
    refine xZ.adv (me := xm236) hP_236 1 (pc' := 380) (lv' := [(7, .int (yw s0)), (0, .ref v0), (3, .ref v3), (4, .ref v4), (6, .int (yw v6))]) (st' := [.int (yw v6), .ref x3]) rfl ?_
    refine xZ.k_aJ (me := xm236) hP_236 rfl (fun x4 => ?_)
    exact xZ.sub (xsc (.tail _ (.head _)) (xsc (.tail _ (.tail _ (.head _))) (xsc (.tail _ (.tail _ (.tail _ (.head _)))) (xsc (.tail _ (.tail _ (.tail _ (.tail _ (.head _))))) xsn)))) (show ([7, 0, 3, 4, 6] : List Nat).Nodup from by decide) (k_f_Law_areAlike_381 O f d K329 hK329 v0 v3 v4 v6 x4 M)
def f_Law_areAlike_329 (O : Nat → Option va_E) (f : Nat) : Nat → Nat → Nat → Nat → Int → xM → Option (Int × xM)
  | 0, _, _, _, _, _ => none
  | n + 1, v0, v3, v4, v6, M =>
    if yw 48 ≤ yw v6 then (
      (isO O M v0 12).bind fun _ =>
      xcl (f_Calendarhall_areAlike O f v0 M) fun x1 M1 =>
      if xfit .boolean (.int (yw x1)) = true then some (x1, M1) else none
    ) else
    (aJR O M v3 1).bind fun x2 =>
    (aJ O M x2 v6).bind fun x3 =>
    (aJR O M v3 0).bind fun x4 =>
    (aJ O M x4 v6).bind fun x5 =>
    if yw x3 < yw x5 then (
      f_Law_areAlike_356 O f (f_Law_areAlike_329 O f n) v0 v3 v4 v6 0 M
    ) else
    f_Law_areAlike_356 O f (f_Law_areAlike_329 O f n) v0 v3 v4 v6 1 M
set_option maxRecDepth 20000 in
theorem k_f_Law_areAlike_329 (O : Nat → Option va_E) (f d : Nat) : ∀ (n : Nat) (v0 : Nat) (v3 : Nat) (v4 : Nat) (v6 : Int) (M : xM), xZ oJ O (d + 66) 236 329 [(0, .ref v0), (3, .ref v3), (4, .ref v4), (6, .int (yw v6))] [] M (f_Law_areAlike_329 O f n v0 v3 v4 v6 M) := by
  intro n
  induction n with
  | zero =>
    intro v0 v3 v4 v6 M
    exact xZ.no
  | succ n ih =>
    intro v0 v3 v4 v6 M
    unfold f_Law_areAlike_329
    refine xZ.adv (me := xm236) hP_236 2 (pc' := 333) (lv' := [(0, .ref v0), (3, .ref v3), (4, .ref v4), (6, .int (yw v6))]) (st' := [.int (48 : Int32), .int (yw v6)]) rfl ?_
    refine xZ.eqs (lv2 := [(0, .ref v0), (3, .ref v3), (4, .ref v4), (6, .int (yw v6))]) (st2 := [.int (yw 48), .int (yw v6)]) rfl (by simp only [yl_lit, yL_lit, yw_add, yw_sub, yw_mul, yw_neg, yl_add, yl_sub, yl_mul, cj_and, cj_or, cj_xor, cj_shl, cj_shr, cj_ushr, cj_div, cj_i2c, cj_i2b, cj_dc, ck_and, ck_or, ck_xor, ck_shl, ck_shr, ck_ushr, ck_i2l, ck_l2i, ck_cmp]) ?_
    refine xZ.jc_ge (me := xm236) hP_236 rfl (fun h1 => ?_) (fun h1 => ?_)
    · skip
      refine xZ.adv (me := xm236) hP_236 1 (pc' := 428) (lv' := [(0, .ref v0), (3, .ref v3), (4, .ref v4), (6, .int (yw v6))]) (st' := [.ref v0]) rfl ?_
      refine xZ.callv (κ := oJ) (av := []) (rest := []) (st' := fun x1 => [.int (yw x1)]) (k0 := v0) (me := xm236) hP_236 rfl (Or.inl rfl) ⟨rfl, by decide⟩ rfl rfl (Nat.le_of_ble_eq_true rfl) (by decide) hP_246 (Nat.le_of_ble_eq_true rfl) (fun _ => rfl) (k_f_Calendarhall_areAlike O f (d + 63) v0 M) (fun x1 M1 => ?_)
      exact xZ.jretf (me := xm236) hP_236 rfl rfl
    · skip
      refine xZ.adv (me := xm236) hP_236 2 (pc' := 338) (lv' := [(0, .ref v0), (3, .ref v3), (4, .ref v4), (6, .int (yw v6))]) (st' := [.int (1 : Int32), .ref v3]) rfl ?_
      refine xZ.eqs (lv2 := [(0, .ref v0), (3, .ref v3), (4, .ref v4), (6, .int (yw v6))]) (st2 := [.int (yw 1), .ref v3]) rfl (by simp only [yl_lit, yL_lit, yw_add, yw_sub, yw_mul, yw_neg, yl_add, yl_sub, yl_mul, cj_and, cj_or, cj_xor, cj_shl, cj_shr, cj_ushr, cj_div, cj_i2c, cj_i2b, cj_dc, ck_and, ck_or, ck_xor, ck_shl, ck_shr, ck_ushr, ck_i2l, ck_l2i, ck_cmp]) ?_
      refine xZ.k_aJR (me := xm236) hP_236 rfl (fun x2 => ?_)
      refine xZ.adv (me := xm236) hP_236 1 (pc' := 341) (lv' := [(0, .ref v0), (3, .ref v3), (4, .ref v4), (6, .int (yw v6))]) (st' := [.int (yw v6), .ref x2]) rfl ?_
      refine xZ.k_aJ (me := xm236) hP_236 rfl (fun x3 => ?_)
      refine xZ.adv (me := xm236) hP_236 2 (pc' := 344) (lv' := [(0, .ref v0), (3, .ref v3), (4, .ref v4), (6, .int (yw v6))]) (st' := [.int (0 : Int32), .ref v3, .int (yw x3)]) rfl ?_
      refine xZ.eqs (lv2 := [(0, .ref v0), (3, .ref v3), (4, .ref v4), (6, .int (yw v6))]) (st2 := [.int (yw 0), .ref v3, .int (yw x3)]) rfl (by simp only [yl_lit, yL_lit, yw_add, yw_sub, yw_mul, yw_neg, yl_add, yl_sub, yl_mul, cj_and, cj_or, cj_xor, cj_shl, cj_shr, cj_ushr, cj_div, cj_i2c, cj_i2b, cj_dc, ck_and, ck_or, ck_xor, ck_shl, ck_shr, ck_ushr, ck_i2l, ck_l2i, ck_cmp]) ?_
      refine xZ.k_aJR (me := xm236) hP_236 rfl (fun x4 => ?_)
      refine xZ.adv (me := xm236) hP_236 1 (pc' := 347) (lv' := [(0, .ref v0), (3, .ref v3), (4, .ref v4), (6, .int (yw v6))]) (st' := [.int (yw v6), .ref x4, .int (yw x3)]) rfl ?_
      refine xZ.k_aJ (me := xm236) hP_236 rfl (fun x5 => ?_)
      refine xZ.jc_lt (me := xm236) hP_236 rfl (fun h2 => ?_) (fun h2 => ?_)
      · skip
        refine xZ.adv (me := xm236) hP_236 1 (pc' := 356) (lv' := [(0, .ref v0), (3, .ref v3), (4, .ref v4), (6, .int (yw v6))]) (st' := [.int (0 : Int32)]) rfl ?_
        refine xZ.eqs (lv2 := [(0, .ref v0), (3, .ref v3), (4, .ref v4), (6, .int (yw v6))]) (st2 := [.int (yw 0)]) rfl (by simp only [yl_lit, yL_lit, yw_add, yw_sub, yw_mul, yw_neg, yl_add, yl_sub, yl_mul, cj_and, cj_or, cj_xor, cj_shl, cj_shr, cj_ushr, cj_div, cj_i2c, cj_i2b, cj_dc, ck_and, ck_or, ck_xor, ck_shl, ck_shr, ck_ushr, ck_i2l, ck_l2i, ck_cmp]) ?_
        exact (k_f_Law_areAlike_356 O f d (f_Law_areAlike_329 O f n) ih v0 v3 v4 v6 0 M)
      · skip
        refine xZ.adv (me := xm236) hP_236 2 (pc' := 356) (lv' := [(0, .ref v0), (3, .ref v3), (4, .ref v4), (6, .int (yw v6))]) (st' := [.int (1 : Int32)]) rfl ?_
        refine xZ.eqs (lv2 := [(0, .ref v0), (3, .ref v3), (4, .ref v4), (6, .int (yw v6))]) (st2 := [.int (yw 1)]) rfl (by simp only [yl_lit, yL_lit, yw_add, yw_sub, yw_mul, yw_neg, yl_add, yl_sub, yl_mul, cj_and, cj_or, cj_xor, cj_shl, cj_shr, cj_ushr, cj_div, cj_i2c, cj_i2b, cj_dc, ck_and, ck_or, ck_xor, ck_shl, ck_shr, ck_ushr, ck_i2l, ck_l2i, ck_cmp]) ?_
        exact (k_f_Law_areAlike_356 O f d (f_Law_areAlike_329 O f n) ih v0 v3 v4 v6 1 M)
def f_Law_areAlike_264 (O : Nat → Option va_E) (f : Nat) (K226 : Nat → Nat → Nat → Nat → Nat → Int → xM → Option (Int × xM)) : Nat → Nat → Nat → Nat → Nat → Nat → Int → Int → Int → xM → Option (Int × xM)
  | 0, _, _, _, _, _, _, _, _, _ => none
  | n + 1, v0, v1, v2, v3, v4, v6, v7, v8, M =>
    (aJ O M v2 v6).bind fun x1 =>
    if yw x1 ≤ yw v8 then (
      (aJ O M v2 v6).bind fun x2 =>
      if yw x2 ≤ yw 0 then (
        K226 v0 v1 v2 v3 v4 (v6 + 1) M
      ) else
      (aJ O M v2 v6).bind fun x3 =>
      (isO O M v1 15).bind fun _ =>
      xcl (f_LDraw_n O f v1 x3 M) fun x4 M1 =>
      (isO O M1 v0 12).bind fun _ =>
      xcl (f_Calendarhall_deliver O f v0 v6 x4 M1) fun x5 M2 =>
      K226 v0 v1 v2 v3 v4 (v6 + 1) M2
    ) else
    (aJ O M v2 v6).bind fun x6 =>
    if yw x6 = yw 0 then none else xlet (((v8 * v7) + 3) - (jdiv ((v8 * v7) + 3) x6) * x6) fun x7 =>
    (isO O M v0 12).bind fun _ =>
    xcl (f_Calendarhall_deliver O f v0 v6 x7 M) fun x8 M3 =>
    f_Law_areAlike_264 O f K226 n v0 v1 v2 v3 v4 v6 v7 (v8 + 1) M3
set_option maxRecDepth 20000 in
theorem k_f_Law_areAlike_264 (O : Nat → Option va_E) (f d : Nat) (K226 : Nat → Nat → Nat → Nat → Nat → Int → xM → Option (Int × xM)) (hK226 : ∀ (v0 : Nat) (v1 : Nat) (v2 : Nat) (v3 : Nat) (v4 : Nat) (v6 : Int) M, xZ oJ O (d + 66) 236 226 [(0, .ref v0), (1, .ref v1), (2, .ref v2), (3, .ref v3), (4, .ref v4), (6, .int (yw v6))] [] M (K226 v0 v1 v2 v3 v4 v6 M)) : ∀ (n : Nat) (v0 : Nat) (v1 : Nat) (v2 : Nat) (v3 : Nat) (v4 : Nat) (v6 : Int) (v7 : Int) (v8 : Int) (M : xM), xZ oJ O (d + 66) 236 264 [(0, .ref v0), (1, .ref v1), (2, .ref v2), (3, .ref v3), (4, .ref v4), (6, .int (yw v6)), (7, .int (yw v7)), (8, .int (yw v8))] [] M (f_Law_areAlike_264 O f K226 n v0 v1 v2 v3 v4 v6 v7 v8 M) := by
  intro n
  induction n with
  | zero =>
    intro v0 v1 v2 v3 v4 v6 v7 v8 M
    exact xZ.no
  | succ n ih =>
    intro v0 v1 v2 v3 v4 v6 v7 v8 M
    unfold f_Law_areAlike_264
    refine xZ.adv (me := xm236) hP_236 3 (pc' := 269) (lv' := [(0, .ref v0), (1, .ref v1), (2, .ref v2), (3, .ref v3), (4, .ref v4), (6, .int (yw v6)), (7, .int (yw v7)), (8, .int (yw v8))]) (st' := [.int (yw v6), .ref v2, .int (yw v8)]) rfl ?_
    refine xZ.k_aJ (me := xm236) hP_236 rfl (fun x1 => ?_)
    refine xZ.jc_ge (me := xm236) hP_236 rfl (fun h1 => ?_) (fun h1 => ?_)
    · skip
      refine xZ.adv (me := xm236) hP_236 2 (pc' := 301) (lv' := [(0, .ref v0), (1, .ref v1), (2, .ref v2), (3, .ref v3), (4, .ref v4), (6, .int (yw v6)), (7, .int (yw v7)), (8, .int (yw v8))]) (st' := [.int (yw v6), .ref v2]) rfl ?_
      refine xZ.k_aJ (me := xm236) hP_236 rfl (fun x2 => ?_)
      refine xZ.jf_le (me := xm236) hP_236 rfl (fun h2 => ?_) (fun h2 => ?_)
      · skip
        refine xZ.adv (me := xm236) hP_236 2 (pc' := 226) (lv' := [(6, .int ((yw v6) + (1 : Int32))), (0, .ref v0), (1, .ref v1), (2, .ref v2), (3, .ref v3), (4, .ref v4), (7, .int (yw v7)), (8, .int (yw v8))]) (st' := []) rfl ?_
        refine xZ.eqs (lv2 := [(6, .int (yw (v6 + 1))), (0, .ref v0), (1, .ref v1), (2, .ref v2), (3, .ref v3), (4, .ref v4), (7, .int (yw v7)), (8, .int (yw v8))]) (st2 := []) (by simp only [yl_lit, yL_lit, yw_add, yw_sub, yw_mul, yw_neg, yl_add, yl_sub, yl_mul, cj_and, cj_or, cj_xor, cj_shl, cj_shr, cj_ushr, cj_div, cj_i2c, cj_i2b, cj_dc, ck_and, ck_or, ck_xor, ck_shl, ck_shr, ck_ushr, ck_i2l, ck_l2i, ck_cmp]) rfl ?_
        exact xZ.sub (xsc (.tail _ (.head _)) (xsc (.tail _ (.tail _ (.head _))) (xsc (.tail _ (.tail _ (.tail _ (.head _)))) (xsc (.tail _ (.tail _ (.tail _ (.tail _ (.head _))))) (xsc (.tail _ (.tail _ (.tail _ (.tail _ (.tail _ (.head _)))))) (xsc (.head _) xsn)))))) (show ([6, 0, 1, 2, 3, 4, 7, 8] : List Nat).Nodup from by decide) (hK226 v0 v1 v2 v3 v4 (v6 + 1) M)
      · skip
        refine xZ.adv (me := xm236) hP_236 5 (pc' := 312) (lv' := [(0, .ref v0), (1, .ref v1), (2, .ref v2), (3, .ref v3), (4, .ref v4), (6, .int (yw v6)), (7, .int (yw v7)), (8, .int (yw v8))]) (st' := [.int (yw v6), .ref v2, .ref v1, .int (yw v6), .ref v0]) rfl ?_
        refine xZ.k_aJ (me := xm236) hP_236 rfl (fun x3 => ?_)
        refine xZ.callv (κ := oJ) (av := [.int (yw x3)]) (rest := [.int (yw v6), .ref v0]) (st' := fun x4 => [.int (yw x4), .int (yw v6), .ref v0]) (k0 := v1) (me := xm236) hP_236 rfl (Or.inl rfl) ⟨rfl, by decide⟩ rfl rfl (Nat.le_of_ble_eq_true rfl) (by decide) hP_12 (Nat.le_of_ble_eq_true rfl) (fun _ => rfl) (k_f_LDraw_n O f (d + 65) v1 x3 M) (fun x4 M1 => ?_)
        refine xZ.callv (κ := oJ) (av := [.int (yw v6), .int (yw x4)]) (rest := []) (st' := fun x5 => [.int (yw x5)]) (k0 := v0) (me := xm236) hP_236 rfl (Or.inl rfl) ⟨rfl, by decide⟩ rfl rfl (Nat.le_of_ble_eq_true rfl) (by decide) hP_243 (Nat.le_of_ble_eq_true rfl) (fun _ => rfl) (k_f_Calendarhall_deliver O f (d + 60) v0 v6 x4 M1) (fun x5 M2 => ?_)
        refine xZ.adv (me := xm236) hP_236 3 (pc' := 226) (lv' := [(6, .int ((yw v6) + (1 : Int32))), (0, .ref v0), (1, .ref v1), (2, .ref v2), (3, .ref v3), (4, .ref v4), (7, .int (yw v7)), (8, .int (yw v8))]) (st' := []) rfl ?_
        refine xZ.eqs (lv2 := [(6, .int (yw (v6 + 1))), (0, .ref v0), (1, .ref v1), (2, .ref v2), (3, .ref v3), (4, .ref v4), (7, .int (yw v7)), (8, .int (yw v8))]) (st2 := []) (by simp only [yl_lit, yL_lit, yw_add, yw_sub, yw_mul, yw_neg, yl_add, yl_sub, yl_mul, cj_and, cj_or, cj_xor, cj_shl, cj_shr, cj_ushr, cj_div, cj_i2c, cj_i2b, cj_dc, ck_and, ck_or, ck_xor, ck_shl, ck_shr, ck_ushr, ck_i2l, ck_l2i, ck_cmp]) rfl ?_
        exact xZ.sub (xsc (.tail _ (.head _)) (xsc (.tail _ (.tail _ (.head _))) (xsc (.tail _ (.tail _ (.tail _ (.head _)))) (xsc (.tail _ (.tail _ (.tail _ (.tail _ (.head _))))) (xsc (.tail _ (.tail _ (.tail _ (.tail _ (.tail _ (.head _)))))) (xsc (.head _) xsn)))))) (show ([6, 0, 1, 2, 3, 4, 7, 8] : List Nat).Nodup from by decide) (hK226 v0 v1 v2 v3 v4 (v6 + 1) M2)
    · skip
      refine xZ.adv (me := xm236) hP_236 9 (pc' := 286) (lv' := [(0, .ref v0), (1, .ref v1), (2, .ref v2), (3, .ref v3), (4, .ref v4), (6, .int (yw v6)), (7, .int (yw v7)), (8, .int (yw v8))]) (st' := [.int (yw v6), .ref v2, .int (((yw v8) * (yw v7)) + (3 : Int32)), .int (yw v6), .ref v0]) rfl ?_
      refine xZ.eqs (lv2 := [(0, .ref v0), (1, .ref v1), (2, .ref v2), (3, .ref v3), (4, .ref v4), (6, .int (yw v6)), (7, .int (yw v7)), (8, .int (yw v8))]) (st2 := [.int (yw v6), .ref v2, .int (yw ((v8 * v7) + 3)), .int (yw v6), .ref v0]) rfl (by simp only [yl_lit, yL_lit, yw_add, yw_sub, yw_mul, yw_neg, yl_add, yl_sub, yl_mul, cj_and, cj_or, cj_xor, cj_shl, cj_shr, cj_ushr, cj_div, cj_i2c, cj_i2b, cj_dc, ck_and, ck_or, ck_xor, ck_shl, ck_shr, ck_ushr, ck_i2l, ck_l2i, ck_cmp]) ?_
      refine xZ.k_aJ (me := xm236) hP_236 rfl (fun x6 => ?_)
      refine xZ.k_jrem (me := xm236) hP_236 rfl (fun x7 => ?_)
      refine xZ.callv (κ := oJ) (av := [.int (yw v6), .int (yw x7)]) (rest := []) (st' := fun x8 => [.int (yw x8)]) (k0 := v0) (me := xm236) hP_236 rfl (Or.inl rfl) ⟨rfl, by decide⟩ rfl rfl (Nat.le_of_ble_eq_true rfl) (by decide) hP_243 (Nat.le_of_ble_eq_true rfl) (fun _ => rfl) (k_f_Calendarhall_deliver O f (d + 60) v0 v6 x7 M) (fun x8 M3 => ?_)
      refine xZ.adv (me := xm236) hP_236 3 (pc' := 264) (lv' := [(8, .int ((yw v8) + (1 : Int32))), (0, .ref v0), (1, .ref v1), (2, .ref v2), (3, .ref v3), (4, .ref v4), (6, .int (yw v6)), (7, .int (yw v7))]) (st' := []) rfl ?_
      refine xZ.eqs (lv2 := [(8, .int (yw (v8 + 1))), (0, .ref v0), (1, .ref v1), (2, .ref v2), (3, .ref v3), (4, .ref v4), (6, .int (yw v6)), (7, .int (yw v7))]) (st2 := []) (by simp only [yl_lit, yL_lit, yw_add, yw_sub, yw_mul, yw_neg, yl_add, yl_sub, yl_mul, cj_and, cj_or, cj_xor, cj_shl, cj_shr, cj_ushr, cj_div, cj_i2c, cj_i2b, cj_dc, ck_and, ck_or, ck_xor, ck_shl, ck_shr, ck_ushr, ck_i2l, ck_l2i, ck_cmp]) rfl ?_
      exact xZ.sub (xsc (.tail _ (.head _)) (xsc (.tail _ (.tail _ (.head _))) (xsc (.tail _ (.tail _ (.tail _ (.head _)))) (xsc (.tail _ (.tail _ (.tail _ (.tail _ (.head _))))) (xsc (.tail _ (.tail _ (.tail _ (.tail _ (.tail _ (.head _)))))) (xsc (.tail _ (.tail _ (.tail _ (.tail _ (.tail _ (.tail _ (.head _))))))) (xsc (.tail _ (.tail _ (.tail _ (.tail _ (.tail _ (.tail _ (.tail _ (.head _)))))))) (xsc (.head _) xsn)))))))) (show ([8, 0, 1, 2, 3, 4, 6, 7] : List Nat).Nodup from by decide) (ih v0 v1 v2 v3 v4 v6 v7 (v8 + 1) M3)
def f_Law_areAlike_261 (O : Nat → Option va_E) (f : Nat) (K226 : Nat → Nat → Nat → Nat → Nat → Int → xM → Option (Int × xM)) (v0 : Nat) (v1 : Nat) (v2 : Nat) (v3 : Nat) (v4 : Nat) (v6 : Int) (v7 : Int) (M : xM) : Option (Int × xM) :=
  f_Law_areAlike_264 O f K226 f v0 v1 v2 v3 v4 v6 v7 0 M
set_option maxRecDepth 20000 in
theorem k_f_Law_areAlike_261 (O : Nat → Option va_E) (f d : Nat) (K226 : Nat → Nat → Nat → Nat → Nat → Int → xM → Option (Int × xM)) (hK226 : ∀ (v0 : Nat) (v1 : Nat) (v2 : Nat) (v3 : Nat) (v4 : Nat) (v6 : Int) M, xZ oJ O (d + 66) 236 226 [(0, .ref v0), (1, .ref v1), (2, .ref v2), (3, .ref v3), (4, .ref v4), (6, .int (yw v6))] [] M (K226 v0 v1 v2 v3 v4 v6 M)) (v0 : Nat) (v1 : Nat) (v2 : Nat) (v3 : Nat) (v4 : Nat) (v6 : Int) (v7 : Int) (M : xM) : xZ oJ O (d + 66) 236 261 [(0, .ref v0), (1, .ref v1), (2, .ref v2), (3, .ref v3), (4, .ref v4), (6, .int (yw v6)), (7, .int (yw v7))] [] M (f_Law_areAlike_261 O f K226 v0 v1 v2 v3 v4 v6 v7 M) := by
  unfold f_Law_areAlike_261
  refine xZ.adv (me := xm236) hP_236 2 (pc' := 264) (lv' := [(8, .int (0 : Int32)), (0, .ref v0), (1, .ref v1), (2, .ref v2), (3, .ref v3), (4, .ref v4), (6, .int (yw v6)), (7, .int (yw v7))]) (st' := []) rfl ?_
  refine xZ.eqs (lv2 := [(8, .int (yw 0)), (0, .ref v0), (1, .ref v1), (2, .ref v2), (3, .ref v3), (4, .ref v4), (6, .int (yw v6)), (7, .int (yw v7))]) (st2 := []) (by simp only [yl_lit, yL_lit, yw_add, yw_sub, yw_mul, yw_neg, yl_add, yl_sub, yl_mul, cj_and, cj_or, cj_xor, cj_shl, cj_shr, cj_ushr, cj_div, cj_i2c, cj_i2b, cj_dc, ck_and, ck_or, ck_xor, ck_shl, ck_shr, ck_ushr, ck_i2l, ck_l2i, ck_cmp]) rfl ?_
  exact xZ.sub (xsc (.tail _ (.head _)) (xsc (.tail _ (.tail _ (.head _))) (xsc (.tail _ (.tail _ (.tail _ (.head _)))) (xsc (.tail _ (.tail _ (.tail _ (.tail _ (.head _))))) (xsc (.tail _ (.tail _ (.tail _ (.tail _ (.tail _ (.head _)))))) (xsc (.tail _ (.tail _ (.tail _ (.tail _ (.tail _ (.tail _ (.head _))))))) (xsc (.tail _ (.tail _ (.tail _ (.tail _ (.tail _ (.tail _ (.tail _ (.head _)))))))) (xsc (.head _) xsn)))))))) (show ([8, 0, 1, 2, 3, 4, 6, 7] : List Nat).Nodup from by decide) (k_f_Law_areAlike_264 O f d K226 hK226 f v0 v1 v2 v3 v4 v6 v7 0 M)
def f_Law_areAlike_235 (O : Nat → Option va_E) (f : Nat) (K226 : Nat → Nat → Nat → Nat → Nat → Int → xM → Option (Int × xM)) : Nat → Nat → Nat → Nat → Nat → Nat → Int → Int → xM → Option (Int × xM)
  | 0, _, _, _, _, _, _, _, _ => none
  | n + 1, v0, v1, v2, v3, v4, v6, v7, M =>
    (aJ O M v2 v6).bind fun x1 =>
    if yw x1 ≤ yw 0 then (
      f_Law_areAlike_261 O f K226 v0 v1 v2 v3 v4 v6 v7 M
    ) else
    (aJ O M v2 v6).bind fun x2 =>
    xcl (f_Law_gcd O f 64 v7 x2 M) fun x3 M1 =>
    if yw x3 = yw 1 then (
      f_Law_areAlike_261 O f K226 v0 v1 v2 v3 v4 v6 v7 M1
    ) else
    f_Law_areAlike_235 O f K226 n v0 v1 v2 v3 v4 v6 (v7 + 1) M1
set_option maxRecDepth 20000 in
theorem k_f_Law_areAlike_235 (O : Nat → Option va_E) (f d : Nat) (K226 : Nat → Nat → Nat → Nat → Nat → Int → xM → Option (Int × xM)) (hK226 : ∀ (v0 : Nat) (v1 : Nat) (v2 : Nat) (v3 : Nat) (v4 : Nat) (v6 : Int) M, xZ oJ O (d + 66) 236 226 [(0, .ref v0), (1, .ref v1), (2, .ref v2), (3, .ref v3), (4, .ref v4), (6, .int (yw v6))] [] M (K226 v0 v1 v2 v3 v4 v6 M)) : ∀ (n : Nat) (v0 : Nat) (v1 : Nat) (v2 : Nat) (v3 : Nat) (v4 : Nat) (v6 : Int) (v7 : Int) (M : xM), xZ oJ O (d + 66) 236 235 [(0, .ref v0), (1, .ref v1), (2, .ref v2), (3, .ref v3), (4, .ref v4), (6, .int (yw v6)), (7, .int (yw v7))] [] M (f_Law_areAlike_235 O f K226 n v0 v1 v2 v3 v4 v6 v7 M) := by
  intro n
  induction n with
  | zero =>
    intro v0 v1 v2 v3 v4 v6 v7 M
    exact xZ.no
  | succ n ih =>
    intro v0 v1 v2 v3 v4 v6 v7 M
    unfold f_Law_areAlike_235
    refine xZ.adv (me := xm236) hP_236 2 (pc' := 238) (lv' := [(0, .ref v0), (1, .ref v1), (2, .ref v2), (3, .ref v3), (4, .ref v4), (6, .int (yw v6)), (7, .int (yw v7))]) (st' := [.int (yw v6), .ref v2]) rfl ?_
    refine xZ.k_aJ (me := xm236) hP_236 rfl (fun x1 => ?_)
    refine xZ.jf_le (me := xm236) hP_236 rfl (fun h1 => ?_) (fun h1 => ?_)
    · skip
      exact (k_f_Law_areAlike_261 O f d K226 hK226 v0 v1 v2 v3 v4 v6 v7 M)
    · skip
      refine xZ.adv (me := xm236) hP_236 3 (pc' := 247) (lv' := [(0, .ref v0), (1, .ref v1), (2, .ref v2), (3, .ref v3), (4, .ref v4), (6, .int (yw v6)), (7, .int (yw v7))]) (st' := [.int (yw v6), .ref v2, .int (yw v7)]) rfl ?_
      refine xZ.k_aJ (me := xm236) hP_236 rfl (fun x2 => ?_)
      refine xZ.calls (κ := oJ) (av := [.int (yw v7), .int (yw x2)]) (rest := []) (st' := fun x3 => [.int (yw x3)]) (me := xm236) hP_236 rfl rfl rfl (Nat.le_of_ble_eq_true rfl) (by decide) hP_245 (Nat.le_of_ble_eq_true rfl) (fun _ => rfl) (xZ.deep (k_f_Law_gcd O f 64 0 v7 x2 M) (by omega)) (fun x3 M1 => ?_)
      refine xZ.adv (me := xm236) hP_236 1 (pc' := 252) (lv' := [(0, .ref v0), (1, .ref v1), (2, .ref v2), (3, .ref v3), (4, .ref v4), (6, .int (yw v6)), (7, .int (yw v7))]) (st' := [.int (1 : Int32), .int (yw x3)]) rfl ?_
      refine xZ.eqs (lv2 := [(0, .ref v0), (1, .ref v1), (2, .ref v2), (3, .ref v3), (4, .ref v4), (6, .int (yw v6)), (7, .int (yw v7))]) (st2 := [.int (yw 1), .int (yw x3)]) rfl (by simp only [yl_lit, yL_lit, yw_add, yw_sub, yw_mul, yw_neg, yl_add, yl_sub, yl_mul, cj_and, cj_or, cj_xor, cj_shl, cj_shr, cj_ushr, cj_div, cj_i2c, cj_i2b, cj_dc, ck_and, ck_or, ck_xor, ck_shl, ck_shr, ck_ushr, ck_i2l, ck_l2i, ck_cmp]) ?_
      refine xZ.jc_eq (me := xm236) hP_236 rfl (fun h2 => ?_) (fun h2 => ?_)
      · skip
        exact (k_f_Law_areAlike_261 O f d K226 hK226 v0 v1 v2 v3 v4 v6 v7 M1)
      · skip
        refine xZ.adv (me := xm236) hP_236 2 (pc' := 235) (lv' := [(7, .int ((yw v7) + (1 : Int32))), (0, .ref v0), (1, .ref v1), (2, .ref v2), (3, .ref v3), (4, .ref v4), (6, .int (yw v6))]) (st' := []) rfl ?_
        refine xZ.eqs (lv2 := [(7, .int (yw (v7 + 1))), (0, .ref v0), (1, .ref v1), (2, .ref v2), (3, .ref v3), (4, .ref v4), (6, .int (yw v6))]) (st2 := []) (by simp only [yl_lit, yL_lit, yw_add, yw_sub, yw_mul, yw_neg, yl_add, yl_sub, yl_mul, cj_and, cj_or, cj_xor, cj_shl, cj_shr, cj_ushr, cj_div, cj_i2c, cj_i2b, cj_dc, ck_and, ck_or, ck_xor, ck_shl, ck_shr, ck_ushr, ck_i2l, ck_l2i, ck_cmp]) rfl ?_
        exact xZ.sub (xsc (.tail _ (.head _)) (xsc (.tail _ (.tail _ (.head _))) (xsc (.tail _ (.tail _ (.tail _ (.head _)))) (xsc (.tail _ (.tail _ (.tail _ (.tail _ (.head _))))) (xsc (.tail _ (.tail _ (.tail _ (.tail _ (.tail _ (.head _)))))) (xsc (.tail _ (.tail _ (.tail _ (.tail _ (.tail _ (.tail _ (.head _))))))) (xsc (.head _) xsn))))))) (show ([7, 0, 1, 2, 3, 4, 6] : List Nat).Nodup from by decide) (ih v0 v1 v2 v3 v4 v6 (v7 + 1) M1)
def f_Law_areAlike_226 (O : Nat → Option va_E) (f : Nat) : Nat → Nat → Nat → Nat → Nat → Nat → Int → xM → Option (Int × xM)
  | 0, _, _, _, _, _, _, _ => none
  | n + 1, v0, v1, v2, v3, v4, v6, M =>
    if yw 2 ≤ yw v6 then (
      f_Law_areAlike_329 O f f v0 v3 v4 0 M
    ) else
    f_Law_areAlike_235 O f (f_Law_areAlike_226 O f n) f v0 v1 v2 v3 v4 v6 1 M
set_option maxRecDepth 20000 in
theorem k_f_Law_areAlike_226 (O : Nat → Option va_E) (f d : Nat) : ∀ (n : Nat) (v0 : Nat) (v1 : Nat) (v2 : Nat) (v3 : Nat) (v4 : Nat) (v6 : Int) (M : xM), xZ oJ O (d + 66) 236 226 [(0, .ref v0), (1, .ref v1), (2, .ref v2), (3, .ref v3), (4, .ref v4), (6, .int (yw v6))] [] M (f_Law_areAlike_226 O f n v0 v1 v2 v3 v4 v6 M) := by
  intro n
  induction n with
  | zero =>
    intro v0 v1 v2 v3 v4 v6 M
    exact xZ.no
  | succ n ih =>
    intro v0 v1 v2 v3 v4 v6 M
    unfold f_Law_areAlike_226
    refine xZ.adv (me := xm236) hP_236 2 (pc' := 229) (lv' := [(0, .ref v0), (1, .ref v1), (2, .ref v2), (3, .ref v3), (4, .ref v4), (6, .int (yw v6))]) (st' := [.int (2 : Int32), .int (yw v6)]) rfl ?_
    refine xZ.eqs (lv2 := [(0, .ref v0), (1, .ref v1), (2, .ref v2), (3, .ref v3), (4, .ref v4), (6, .int (yw v6))]) (st2 := [.int (yw 2), .int (yw v6)]) rfl (by simp only [yl_lit, yL_lit, yw_add, yw_sub, yw_mul, yw_neg, yl_add, yl_sub, yl_mul, cj_and, cj_or, cj_xor, cj_shl, cj_shr, cj_ushr, cj_div, cj_i2c, cj_i2b, cj_dc, ck_and, ck_or, ck_xor, ck_shl, ck_shr, ck_ushr, ck_i2l, ck_l2i, ck_cmp]) ?_
    refine xZ.jc_ge (me := xm236) hP_236 rfl (fun h1 => ?_) (fun h1 => ?_)
    · skip
      refine xZ.adv (me := xm236) hP_236 2 (pc' := 329) (lv' := [(6, .int (0 : Int32)), (0, .ref v0), (1, .ref v1), (2, .ref v2), (3, .ref v3), (4, .ref v4)]) (st' := []) rfl ?_
      refine xZ.eqs (lv2 := [(6, .int (yw 0)), (0, .ref v0), (1, .ref v1), (2, .ref v2), (3, .ref v3), (4, .ref v4)]) (st2 := []) (by simp only [yl_lit, yL_lit, yw_add, yw_sub, yw_mul, yw_neg, yl_add, yl_sub, yl_mul, cj_and, cj_or, cj_xor, cj_shl, cj_shr, cj_ushr, cj_div, cj_i2c, cj_i2b, cj_dc, ck_and, ck_or, ck_xor, ck_shl, ck_shr, ck_ushr, ck_i2l, ck_l2i, ck_cmp]) rfl ?_
      exact xZ.sub (xsc (.tail _ (.head _)) (xsc (.tail _ (.tail _ (.tail _ (.tail _ (.head _))))) (xsc (.tail _ (.tail _ (.tail _ (.tail _ (.tail _ (.head _)))))) (xsc (.head _) xsn)))) (show ([6, 0, 1, 2, 3, 4] : List Nat).Nodup from by decide) (k_f_Law_areAlike_329 O f d f v0 v3 v4 0 M)
    · skip
      refine xZ.adv (me := xm236) hP_236 2 (pc' := 235) (lv' := [(7, .int (1 : Int32)), (0, .ref v0), (1, .ref v1), (2, .ref v2), (3, .ref v3), (4, .ref v4), (6, .int (yw v6))]) (st' := []) rfl ?_
      refine xZ.eqs (lv2 := [(7, .int (yw 1)), (0, .ref v0), (1, .ref v1), (2, .ref v2), (3, .ref v3), (4, .ref v4), (6, .int (yw v6))]) (st2 := []) (by simp only [yl_lit, yL_lit, yw_add, yw_sub, yw_mul, yw_neg, yl_add, yl_sub, yl_mul, cj_and, cj_or, cj_xor, cj_shl, cj_shr, cj_ushr, cj_div, cj_i2c, cj_i2b, cj_dc, ck_and, ck_or, ck_xor, ck_shl, ck_shr, ck_ushr, ck_i2l, ck_l2i, ck_cmp]) rfl ?_
      exact xZ.sub (xsc (.tail _ (.head _)) (xsc (.tail _ (.tail _ (.head _))) (xsc (.tail _ (.tail _ (.tail _ (.head _)))) (xsc (.tail _ (.tail _ (.tail _ (.tail _ (.head _))))) (xsc (.tail _ (.tail _ (.tail _ (.tail _ (.tail _ (.head _)))))) (xsc (.tail _ (.tail _ (.tail _ (.tail _ (.tail _ (.tail _ (.head _))))))) (xsc (.head _) xsn))))))) (show ([7, 0, 1, 2, 3, 4, 6] : List Nat).Nodup from by decide) (k_f_Law_areAlike_235 O f d (f_Law_areAlike_226 O f n) ih f v0 v1 v2 v3 v4 v6 1 M)
def f_Law_areAlike_93 (O : Nat → Option va_E) (f : Nat) (K64 : Nat → Nat → Nat → Nat → Nat → Int → Int → xM → Option (Int × xM)) (v0 : Nat) (v1 : Nat) (v2 : Nat) (v3 : Nat) (v4 : Nat) (v5 : Int) (v6 : Int) (v7 : Int) (s0 : Nat) (s1 : Int) (M : xM) : Option (Int × xM) :=
  (isO O M s0 15).bind fun _ =>
  xcl (f_LDraw_n O f s0 s1 M) fun x1 M1 =>
  (isO O M1 v1 15).bind fun _ =>
  xcl (f_LDraw_n O f v1 1000 M1) fun x2 M2 =>
  (aJ O M2 v2 v7).bind fun x3 =>
  if yw x3 = yw 40 then (
    K64 v0 v1 v2 v3 v4 v5 (v6 + 1) M2
  ) else
  (aJR O M2 v3 v7).bind fun x4 =>
  (isO O M2 v0 12).bind fun _ =>
  xcl (f_Calendarhall_change O f v0 v7 (jdiv x1 4) (x1 - (jdiv x1 4) * 4) x2 M2) fun x5 M3 =>
  (wJ M3 x4 x1 x5).bind fun M4 =>
  (aJR O M4 v4 v7).bind fun x6 =>
  (wJ M4 x6 x1 x2).bind fun M5 =>
  (aJ O M5 v2 v7).bind fun x7 =>
  (wJ M5 v2 v7 (x7 + 1)).bind fun M6 =>
  (isO O M6 v0 12).bind fun _ =>
  xcl (f_Calendarhall_shown O f v0 v7 (jdiv x1 4) (x1 - (jdiv x1 4) * 4) M6) fun x8 M7 =>
  if yw x8 = yw x2 then (
    (isO O M7 v1 15).bind fun _ =>
    xcl (f_LDraw_is O f v1 3 M7) fun x9 M8 =>
    if yw x9 = yw 0 then (
      K64 v0 v1 v2 v3 v4 v5 (v6 + 1) M8
    ) else
    (aJ O M8 v2 (1 - v7)).bind fun x10 =>
    if yw x10 ≤ yw 0 then (
      K64 v0 v1 v2 v3 v4 v5 (v6 + 1) M8
    ) else
    (aJ O M8 v2 (1 - v7)).bind fun x11 =>
    (isO O M8 v1 15).bind fun _ =>
    xcl (f_LDraw_n O f v1 x11 M8) fun x12 M9 =>
    (isO O M9 v0 12).bind fun _ =>
    xcl (f_Calendarhall_deliver O f v0 (1 - v7) x12 M9) fun x13 M10 =>
    K64 v0 v1 v2 v3 v4 v5 (v6 + 1) M10
  ) else
  some (0, M7)
set_option maxRecDepth 20000 in
theorem k_f_Law_areAlike_93 (O : Nat → Option va_E) (f d : Nat) (K64 : Nat → Nat → Nat → Nat → Nat → Int → Int → xM → Option (Int × xM)) (hK64 : ∀ (v0 : Nat) (v1 : Nat) (v2 : Nat) (v3 : Nat) (v4 : Nat) (v5 : Int) (v6 : Int) M, xZ oJ O (d + 66) 236 64 [(0, .ref v0), (1, .ref v1), (2, .ref v2), (3, .ref v3), (4, .ref v4), (5, .int (yw v5)), (6, .int (yw v6))] [] M (K64 v0 v1 v2 v3 v4 v5 v6 M)) (v0 : Nat) (v1 : Nat) (v2 : Nat) (v3 : Nat) (v4 : Nat) (v5 : Int) (v6 : Int) (v7 : Int) (s0 : Nat) (s1 : Int) (M : xM) : xZ oJ O (d + 66) 236 93 [(0, .ref v0), (1, .ref v1), (2, .ref v2), (3, .ref v3), (4, .ref v4), (5, .int (yw v5)), (6, .int (yw v6)), (7, .int (yw v7))] [.int (yw s1), .ref s0] M (f_Law_areAlike_93 O f K64 v0 v1 v2 v3 v4 v5 v6 v7 s0 s1 M) := by
  unfold f_Law_areAlike_93
  refine xZ.callv (κ := oJ) (av := [.int (yw s1)]) (rest := []) (st' := fun x1 => [.int (yw x1)]) (k0 := s0) (me := xm236) hP_236 rfl (Or.inl rfl) ⟨rfl, by decide⟩ rfl rfl (Nat.le_of_ble_eq_true rfl) (by decide) hP_12 (Nat.le_of_ble_eq_true rfl) (fun _ => rfl) (k_f_LDraw_n O f (d + 65) s0 s1 M) (fun x1 M1 => ?_)
  refine xZ.adv (me := xm236) hP_236 3 (pc' := 102) (lv' := [(8, .int (yw x1)), (0, .ref v0), (1, .ref v1), (2, .ref v2), (3, .ref v3), (4, .ref v4), (5, .int (yw v5)), (6, .int (yw v6)), (7, .int (yw v7))]) (st' := [.int (1000 : Int32), .ref v1]) rfl ?_
  refine xZ.eqs (lv2 := [(8, .int (yw x1)), (0, .ref v0), (1, .ref v1), (2, .ref v2), (3, .ref v3), (4, .ref v4), (5, .int (yw v5)), (6, .int (yw v6)), (7, .int (yw v7))]) (st2 := [.int (yw 1000), .ref v1]) rfl (by simp only [yl_lit, yL_lit, yw_add, yw_sub, yw_mul, yw_neg, yl_add, yl_sub, yl_mul, cj_and, cj_or, cj_xor, cj_shl, cj_shr, cj_ushr, cj_div, cj_i2c, cj_i2b, cj_dc, ck_and, ck_or, ck_xor, ck_shl, ck_shr, ck_ushr, ck_i2l, ck_l2i, ck_cmp]) ?_
  refine xZ.callv (κ := oJ) (av := [.int (yw 1000)]) (rest := []) (st' := fun x2 => [.int (yw x2)]) (k0 := v1) (me := xm236) hP_236 rfl (Or.inl rfl) ⟨rfl, by decide⟩ rfl rfl (Nat.le_of_ble_eq_true rfl) (by decide) hP_12 (Nat.le_of_ble_eq_true rfl) (fun _ => rfl) (k_f_LDraw_n O f (d + 65) v1 1000 M1) (fun x2 M2 => ?_)
  refine xZ.adv (me := xm236) hP_236 3 (pc' := 110) (lv' := [(9, .int (yw x2)), (8, .int (yw x1)), (0, .ref v0), (1, .ref v1), (2, .ref v2), (3, .ref v3), (4, .ref v4), (5, .int (yw v5)), (6, .int (yw v6)), (7, .int (yw v7))]) (st' := [.int (yw v7), .ref v2]) rfl ?_
  refine xZ.k_aJ (me := xm236) hP_236 rfl (fun x3 => ?_)
  refine xZ.adv (me := xm236) hP_236 1 (pc' := 113) (lv' := [(9, .int (yw x2)), (8, .int (yw x1)), (0, .ref v0), (1, .ref v1), (2, .ref v2), (3, .ref v3), (4, .ref v4), (5, .int (yw v5)), (6, .int (yw v6)), (7, .int (yw v7))]) (st' := [.int (40 : Int32), .int (yw x3)]) rfl ?_
  refine xZ.eqs (lv2 := [(9, .int (yw x2)), (8, .int (yw x1)), (0, .ref v0), (1, .ref v1), (2, .ref v2), (3, .ref v3), (4, .ref v4), (5, .int (yw v5)), (6, .int (yw v6)), (7, .int (yw v7))]) (st2 := [.int (yw 40), .int (yw x3)]) rfl (by simp only [yl_lit, yL_lit, yw_add, yw_sub, yw_mul, yw_neg, yl_add, yl_sub, yl_mul, cj_and, cj_or, cj_xor, cj_shl, cj_shr, cj_ushr, cj_div, cj_i2c, cj_i2b, cj_dc, ck_and, ck_or, ck_xor, ck_shl, ck_shr, ck_ushr, ck_i2l, ck_l2i, ck_cmp]) ?_
  refine xZ.jc_ne (me := xm236) hP_236 rfl (fun h1 => ?_) (fun h1 => ?_)
  · skip
    refine xZ.adv (me := xm236) hP_236 3 (pc' := 64) (lv' := [(6, .int ((yw v6) + (1 : Int32))), (9, .int (yw x2)), (8, .int (yw x1)), (0, .ref v0), (1, .ref v1), (2, .ref v2), (3, .ref v3), (4, .ref v4), (5, .int (yw v5)), (7, .int (yw v7))]) (st' := []) rfl ?_
    refine xZ.eqs (lv2 := [(6, .int (yw (v6 + 1))), (9, .int (yw x2)), (8, .int (yw x1)), (0, .ref v0), (1, .ref v1), (2, .ref v2), (3, .ref v3), (4, .ref v4), (5, .int (yw v5)), (7, .int (yw v7))]) (st2 := []) (by simp only [yl_lit, yL_lit, yw_add, yw_sub, yw_mul, yw_neg, yl_add, yl_sub, yl_mul, cj_and, cj_or, cj_xor, cj_shl, cj_shr, cj_ushr, cj_div, cj_i2c, cj_i2b, cj_dc, ck_and, ck_or, ck_xor, ck_shl, ck_shr, ck_ushr, ck_i2l, ck_l2i, ck_cmp]) rfl ?_
    exact xZ.sub (xsc (.tail _ (.tail _ (.tail _ (.head _)))) (xsc (.tail _ (.tail _ (.tail _ (.tail _ (.head _))))) (xsc (.tail _ (.tail _ (.tail _ (.tail _ (.tail _ (.head _)))))) (xsc (.tail _ (.tail _ (.tail _ (.tail _ (.tail _ (.tail _ (.head _))))))) (xsc (.tail _ (.tail _ (.tail _ (.tail _ (.tail _ (.tail _ (.tail _ (.head _)))))))) (xsc (.tail _ (.tail _ (.tail _ (.tail _ (.tail _ (.tail _ (.tail _ (.tail _ (.head _))))))))) (xsc (.head _) xsn))))))) (show ([6, 9, 8, 0, 1, 2, 3, 4, 5, 7] : List Nat).Nodup from by decide) (hK64 v0 v1 v2 v3 v4 v5 (v6 + 1) M2)
  · skip
    refine xZ.adv (me := xm236) hP_236 2 (pc' := 122) (lv' := [(9, .int (yw x2)), (8, .int (yw x1)), (0, .ref v0), (1, .ref v1), (2, .ref v2), (3, .ref v3), (4, .ref v4), (5, .int (yw v5)), (6, .int (yw v6)), (7, .int (yw v7))]) (st' := [.int (yw v7), .ref v3]) rfl ?_
    refine xZ.k_aJR (me := xm236) hP_236 rfl (fun x4 => ?_)
    refine xZ.adv (me := xm236) hP_236 10 (pc' := 138) (lv' := [(9, .int (yw x2)), (8, .int (yw x1)), (0, .ref v0), (1, .ref v1), (2, .ref v2), (3, .ref v3), (4, .ref v4), (5, .int (yw v5)), (6, .int (yw v6)), (7, .int (yw v7))]) (st' := [.int (yw x2), .int ((yw x1) - (yw x1) / (4 : Int32) * (4 : Int32)), .int ((yw x1) / (4 : Int32)), .int (yw v7), .ref v0, .int (yw x1), .ref x4]) rfl ?_
    refine xZ.eqs (lv2 := [(9, .int (yw x2)), (8, .int (yw x1)), (0, .ref v0), (1, .ref v1), (2, .ref v2), (3, .ref v3), (4, .ref v4), (5, .int (yw v5)), (6, .int (yw v6)), (7, .int (yw v7))]) (st2 := [.int (yw x2), .int (yw (x1 - (jdiv x1 4) * 4)), .int (yw (jdiv x1 4)), .int (yw v7), .ref v0, .int (yw x1), .ref x4]) rfl (by simp only [yl_lit, yL_lit, yw_add, yw_sub, yw_mul, yw_neg, yl_add, yl_sub, yl_mul, cj_and, cj_or, cj_xor, cj_shl, cj_shr, cj_ushr, cj_div, cj_i2c, cj_i2b, cj_dc, ck_and, ck_or, ck_xor, ck_shl, ck_shr, ck_ushr, ck_i2l, ck_l2i, ck_cmp]) ?_
    refine xZ.callv (κ := oJ) (av := [.int (yw v7), .int (yw (jdiv x1 4)), .int (yw (x1 - (jdiv x1 4) * 4)), .int (yw x2)]) (rest := [.int (yw x1), .ref x4]) (st' := fun x5 => [.int (yw x5), .int (yw x1), .ref x4]) (k0 := v0) (me := xm236) hP_236 rfl (Or.inl rfl) ⟨rfl, by decide⟩ rfl rfl (Nat.le_of_ble_eq_true rfl) (by decide) hP_237 (Nat.le_of_ble_eq_true rfl) (fun _ => rfl) (k_f_Calendarhall_change O f (d + 60) v0 v7 (jdiv x1 4) (x1 - (jdiv x1 4) * 4) x2 M2) (fun x5 M3 => ?_)
    refine xZ.k_wJ (me := xm236) hP_236 rfl (fun M4 => ?_)
    refine xZ.adv (me := xm236) hP_236 2 (pc' := 146) (lv' := [(9, .int (yw x2)), (8, .int (yw x1)), (0, .ref v0), (1, .ref v1), (2, .ref v2), (3, .ref v3), (4, .ref v4), (5, .int (yw v5)), (6, .int (yw v6)), (7, .int (yw v7))]) (st' := [.int (yw v7), .ref v4]) rfl ?_
    refine xZ.k_aJR (me := xm236) hP_236 rfl (fun x6 => ?_)
    refine xZ.adv (me := xm236) hP_236 2 (pc' := 151) (lv' := [(9, .int (yw x2)), (8, .int (yw x1)), (0, .ref v0), (1, .ref v1), (2, .ref v2), (3, .ref v3), (4, .ref v4), (5, .int (yw v5)), (6, .int (yw v6)), (7, .int (yw v7))]) (st' := [.int (yw x2), .int (yw x1), .ref x6]) rfl ?_
    refine xZ.k_wJ (me := xm236) hP_236 rfl (fun M5 => ?_)
    refine xZ.adv (me := xm236) hP_236 3 (pc' := 156) (lv' := [(9, .int (yw x2)), (8, .int (yw x1)), (0, .ref v0), (1, .ref v1), (2, .ref v2), (3, .ref v3), (4, .ref v4), (5, .int (yw v5)), (6, .int (yw v6)), (7, .int (yw v7))]) (st' := [.int (yw v7), .ref v2, .int (yw v7), .ref v2]) rfl ?_
    refine xZ.k_aJ (me := xm236) hP_236 rfl (fun x7 => ?_)
    refine xZ.adv (me := xm236) hP_236 2 (pc' := 159) (lv' := [(9, .int (yw x2)), (8, .int (yw x1)), (0, .ref v0), (1, .ref v1), (2, .ref v2), (3, .ref v3), (4, .ref v4), (5, .int (yw v5)), (6, .int (yw v6)), (7, .int (yw v7))]) (st' := [.int ((yw x7) + (1 : Int32)), .int (yw v7), .ref v2]) rfl ?_
    refine xZ.eqs (lv2 := [(9, .int (yw x2)), (8, .int (yw x1)), (0, .ref v0), (1, .ref v1), (2, .ref v2), (3, .ref v3), (4, .ref v4), (5, .int (yw v5)), (6, .int (yw v6)), (7, .int (yw v7))]) (st2 := [.int (yw (x7 + 1)), .int (yw v7), .ref v2]) rfl (by simp only [yl_lit, yL_lit, yw_add, yw_sub, yw_mul, yw_neg, yl_add, yl_sub, yl_mul, cj_and, cj_or, cj_xor, cj_shl, cj_shr, cj_ushr, cj_div, cj_i2c, cj_i2b, cj_dc, ck_and, ck_or, ck_xor, ck_shl, ck_shr, ck_ushr, ck_i2l, ck_l2i, ck_cmp]) ?_
    refine xZ.k_wJ (me := xm236) hP_236 rfl (fun M6 => ?_)
    refine xZ.adv (me := xm236) hP_236 8 (pc' := 171) (lv' := [(9, .int (yw x2)), (8, .int (yw x1)), (0, .ref v0), (1, .ref v1), (2, .ref v2), (3, .ref v3), (4, .ref v4), (5, .int (yw v5)), (6, .int (yw v6)), (7, .int (yw v7))]) (st' := [.int ((yw x1) - (yw x1) / (4 : Int32) * (4 : Int32)), .int ((yw x1) / (4 : Int32)), .int (yw v7), .ref v0]) rfl ?_
    refine xZ.eqs (lv2 := [(9, .int (yw x2)), (8, .int (yw x1)), (0, .ref v0), (1, .ref v1), (2, .ref v2), (3, .ref v3), (4, .ref v4), (5, .int (yw v5)), (6, .int (yw v6)), (7, .int (yw v7))]) (st2 := [.int (yw (x1 - (jdiv x1 4) * 4)), .int (yw (jdiv x1 4)), .int (yw v7), .ref v0]) rfl (by simp only [yl_lit, yL_lit, yw_add, yw_sub, yw_mul, yw_neg, yl_add, yl_sub, yl_mul, cj_and, cj_or, cj_xor, cj_shl, cj_shr, cj_ushr, cj_div, cj_i2c, cj_i2b, cj_dc, ck_and, ck_or, ck_xor, ck_shl, ck_shr, ck_ushr, ck_i2l, ck_l2i, ck_cmp]) ?_
    refine xZ.callv (κ := oJ) (av := [.int (yw v7), .int (yw (jdiv x1 4)), .int (yw (x1 - (jdiv x1 4) * 4))]) (rest := []) (st' := fun x8 => [.int (yw x8)]) (k0 := v0) (me := xm236) hP_236 rfl (Or.inl rfl) ⟨rfl, by decide⟩ rfl rfl (Nat.le_of_ble_eq_true rfl) (by decide) hP_241 (Nat.le_of_ble_eq_true rfl) (fun _ => rfl) (k_f_Calendarhall_shown O f (d + 63) v0 v7 (jdiv x1 4) (x1 - (jdiv x1 4) * 4) M6) (fun x8 M7 => ?_)
    refine xZ.adv (me := xm236) hP_236 1 (pc' := 176) (lv' := [(9, .int (yw x2)), (8, .int (yw x1)), (0, .ref v0), (1, .ref v1), (2, .ref v2), (3, .ref v3), (4, .ref v4), (5, .int (yw v5)), (6, .int (yw v6)), (7, .int (yw v7))]) (st' := [.int (yw x2), .int (yw x8)]) rfl ?_
    refine xZ.jc_eq (me := xm236) hP_236 rfl (fun h2 => ?_) (fun h2 => ?_)
    · skip
      refine xZ.adv (me := xm236) hP_236 2 (pc' := 183) (lv' := [(9, .int (yw x2)), (8, .int (yw x1)), (0, .ref v0), (1, .ref v1), (2, .ref v2), (3, .ref v3), (4, .ref v4), (5, .int (yw v5)), (6, .int (yw v6)), (7, .int (yw v7))]) (st' := [.int (3 : Int32), .ref v1]) rfl ?_
      refine xZ.eqs (lv2 := [(9, .int (yw x2)), (8, .int (yw x1)), (0, .ref v0), (1, .ref v1), (2, .ref v2), (3, .ref v3), (4, .ref v4), (5, .int (yw v5)), (6, .int (yw v6)), (7, .int (yw v7))]) (st2 := [.int (yw 3), .ref v1]) rfl (by simp only [yl_lit, yL_lit, yw_add, yw_sub, yw_mul, yw_neg, yl_add, yl_sub, yl_mul, cj_and, cj_or, cj_xor, cj_shl, cj_shr, cj_ushr, cj_div, cj_i2c, cj_i2b, cj_dc, ck_and, ck_or, ck_xor, ck_shl, ck_shr, ck_ushr, ck_i2l, ck_l2i, ck_cmp]) ?_
      refine xZ.callv (κ := oJ) (av := [.int (yw 3)]) (rest := []) (st' := fun x9 => [.int (yw x9)]) (k0 := v1) (me := xm236) hP_236 rfl (Or.inl rfl) ⟨rfl, by decide⟩ rfl rfl (Nat.le_of_ble_eq_true rfl) (by decide) hP_18 (Nat.le_of_ble_eq_true rfl) (fun _ => rfl) (k_f_LDraw_is O f (d + 64) v1 3 M7) (fun x9 M8 => ?_)
      refine xZ.jf_eq (me := xm236) hP_236 rfl (fun h3 => ?_) (fun h3 => ?_)
      · skip
        refine xZ.adv (me := xm236) hP_236 2 (pc' := 64) (lv' := [(6, .int ((yw v6) + (1 : Int32))), (9, .int (yw x2)), (8, .int (yw x1)), (0, .ref v0), (1, .ref v1), (2, .ref v2), (3, .ref v3), (4, .ref v4), (5, .int (yw v5)), (7, .int (yw v7))]) (st' := []) rfl ?_
        refine xZ.eqs (lv2 := [(6, .int (yw (v6 + 1))), (9, .int (yw x2)), (8, .int (yw x1)), (0, .ref v0), (1, .ref v1), (2, .ref v2), (3, .ref v3), (4, .ref v4), (5, .int (yw v5)), (7, .int (yw v7))]) (st2 := []) (by simp only [yl_lit, yL_lit, yw_add, yw_sub, yw_mul, yw_neg, yl_add, yl_sub, yl_mul, cj_and, cj_or, cj_xor, cj_shl, cj_shr, cj_ushr, cj_div, cj_i2c, cj_i2b, cj_dc, ck_and, ck_or, ck_xor, ck_shl, ck_shr, ck_ushr, ck_i2l, ck_l2i, ck_cmp]) rfl ?_
        exact xZ.sub (xsc (.tail _ (.tail _ (.tail _ (.head _)))) (xsc (.tail _ (.tail _ (.tail _ (.tail _ (.head _))))) (xsc (.tail _ (.tail _ (.tail _ (.tail _ (.tail _ (.head _)))))) (xsc (.tail _ (.tail _ (.tail _ (.tail _ (.tail _ (.tail _ (.head _))))))) (xsc (.tail _ (.tail _ (.tail _ (.tail _ (.tail _ (.tail _ (.tail _ (.head _)))))))) (xsc (.tail _ (.tail _ (.tail _ (.tail _ (.tail _ (.tail _ (.tail _ (.tail _ (.head _))))))))) (xsc (.head _) xsn))))))) (show ([6, 9, 8, 0, 1, 2, 3, 4, 5, 7] : List Nat).Nodup from by decide) (hK64 v0 v1 v2 v3 v4 v5 (v6 + 1) M8)
      · skip
        refine xZ.adv (me := xm236) hP_236 4 (pc' := 194) (lv' := [(9, .int (yw x2)), (8, .int (yw x1)), (0, .ref v0), (1, .ref v1), (2, .ref v2), (3, .ref v3), (4, .ref v4), (5, .int (yw v5)), (6, .int (yw v6)), (7, .int (yw v7))]) (st' := [.int ((1 : Int32) - (yw v7)), .ref v2]) rfl ?_
        refine xZ.eqs (lv2 := [(9, .int (yw x2)), (8, .int (yw x1)), (0, .ref v0), (1, .ref v1), (2, .ref v2), (3, .ref v3), (4, .ref v4), (5, .int (yw v5)), (6, .int (yw v6)), (7, .int (yw v7))]) (st2 := [.int (yw (1 - v7)), .ref v2]) rfl (by simp only [yl_lit, yL_lit, yw_add, yw_sub, yw_mul, yw_neg, yl_add, yl_sub, yl_mul, cj_and, cj_or, cj_xor, cj_shl, cj_shr, cj_ushr, cj_div, cj_i2c, cj_i2b, cj_dc, ck_and, ck_or, ck_xor, ck_shl, ck_shr, ck_ushr, ck_i2l, ck_l2i, ck_cmp]) ?_
        refine xZ.k_aJ (me := xm236) hP_236 rfl (fun x10 => ?_)
        refine xZ.jf_le (me := xm236) hP_236 rfl (fun h4 => ?_) (fun h4 => ?_)
        · skip
          refine xZ.adv (me := xm236) hP_236 2 (pc' := 64) (lv' := [(6, .int ((yw v6) + (1 : Int32))), (9, .int (yw x2)), (8, .int (yw x1)), (0, .ref v0), (1, .ref v1), (2, .ref v2), (3, .ref v3), (4, .ref v4), (5, .int (yw v5)), (7, .int (yw v7))]) (st' := []) rfl ?_
          refine xZ.eqs (lv2 := [(6, .int (yw (v6 + 1))), (9, .int (yw x2)), (8, .int (yw x1)), (0, .ref v0), (1, .ref v1), (2, .ref v2), (3, .ref v3), (4, .ref v4), (5, .int (yw v5)), (7, .int (yw v7))]) (st2 := []) (by simp only [yl_lit, yL_lit, yw_add, yw_sub, yw_mul, yw_neg, yl_add, yl_sub, yl_mul, cj_and, cj_or, cj_xor, cj_shl, cj_shr, cj_ushr, cj_div, cj_i2c, cj_i2b, cj_dc, ck_and, ck_or, ck_xor, ck_shl, ck_shr, ck_ushr, ck_i2l, ck_l2i, ck_cmp]) rfl ?_
          exact xZ.sub (xsc (.tail _ (.tail _ (.tail _ (.head _)))) (xsc (.tail _ (.tail _ (.tail _ (.tail _ (.head _))))) (xsc (.tail _ (.tail _ (.tail _ (.tail _ (.tail _ (.head _)))))) (xsc (.tail _ (.tail _ (.tail _ (.tail _ (.tail _ (.tail _ (.head _))))))) (xsc (.tail _ (.tail _ (.tail _ (.tail _ (.tail _ (.tail _ (.tail _ (.head _)))))))) (xsc (.tail _ (.tail _ (.tail _ (.tail _ (.tail _ (.tail _ (.tail _ (.tail _ (.head _))))))))) (xsc (.head _) xsn))))))) (show ([6, 9, 8, 0, 1, 2, 3, 4, 5, 7] : List Nat).Nodup from by decide) (hK64 v0 v1 v2 v3 v4 v5 (v6 + 1) M8)
        · skip
          refine xZ.adv (me := xm236) hP_236 9 (pc' := 209) (lv' := [(9, .int (yw x2)), (8, .int (yw x1)), (0, .ref v0), (1, .ref v1), (2, .ref v2), (3, .ref v3), (4, .ref v4), (5, .int (yw v5)), (6, .int (yw v6)), (7, .int (yw v7))]) (st' := [.int ((1 : Int32) - (yw v7)), .ref v2, .ref v1, .int ((1 : Int32) - (yw v7)), .ref v0]) rfl ?_
          refine xZ.eqs (lv2 := [(9, .int (yw x2)), (8, .int (yw x1)), (0, .ref v0), (1, .ref v1), (2, .ref v2), (3, .ref v3), (4, .ref v4), (5, .int (yw v5)), (6, .int (yw v6)), (7, .int (yw v7))]) (st2 := [.int (yw (1 - v7)), .ref v2, .ref v1, .int (yw (1 - v7)), .ref v0]) rfl (by simp only [yl_lit, yL_lit, yw_add, yw_sub, yw_mul, yw_neg, yl_add, yl_sub, yl_mul, cj_and, cj_or, cj_xor, cj_shl, cj_shr, cj_ushr, cj_div, cj_i2c, cj_i2b, cj_dc, ck_and, ck_or, ck_xor, ck_shl, ck_shr, ck_ushr, ck_i2l, ck_l2i, ck_cmp]) ?_
          refine xZ.k_aJ (me := xm236) hP_236 rfl (fun x11 => ?_)
          refine xZ.callv (κ := oJ) (av := [.int (yw x11)]) (rest := [.int (yw (1 - v7)), .ref v0]) (st' := fun x12 => [.int (yw x12), .int (yw (1 - v7)), .ref v0]) (k0 := v1) (me := xm236) hP_236 rfl (Or.inl rfl) ⟨rfl, by decide⟩ rfl rfl (Nat.le_of_ble_eq_true rfl) (by decide) hP_12 (Nat.le_of_ble_eq_true rfl) (fun _ => rfl) (k_f_LDraw_n O f (d + 65) v1 x11 M8) (fun x12 M9 => ?_)
          refine xZ.callv (κ := oJ) (av := [.int (yw (1 - v7)), .int (yw x12)]) (rest := []) (st' := fun x13 => [.int (yw x13)]) (k0 := v0) (me := xm236) hP_236 rfl (Or.inl rfl) ⟨rfl, by decide⟩ rfl rfl (Nat.le_of_ble_eq_true rfl) (by decide) hP_243 (Nat.le_of_ble_eq_true rfl) (fun _ => rfl) (k_f_Calendarhall_deliver O f (d + 60) v0 (1 - v7) x12 M9) (fun x13 M10 => ?_)
          refine xZ.adv (me := xm236) hP_236 3 (pc' := 64) (lv' := [(6, .int ((yw v6) + (1 : Int32))), (9, .int (yw x2)), (8, .int (yw x1)), (0, .ref v0), (1, .ref v1), (2, .ref v2), (3, .ref v3), (4, .ref v4), (5, .int (yw v5)), (7, .int (yw v7))]) (st' := []) rfl ?_
          refine xZ.eqs (lv2 := [(6, .int (yw (v6 + 1))), (9, .int (yw x2)), (8, .int (yw x1)), (0, .ref v0), (1, .ref v1), (2, .ref v2), (3, .ref v3), (4, .ref v4), (5, .int (yw v5)), (7, .int (yw v7))]) (st2 := []) (by simp only [yl_lit, yL_lit, yw_add, yw_sub, yw_mul, yw_neg, yl_add, yl_sub, yl_mul, cj_and, cj_or, cj_xor, cj_shl, cj_shr, cj_ushr, cj_div, cj_i2c, cj_i2b, cj_dc, ck_and, ck_or, ck_xor, ck_shl, ck_shr, ck_ushr, ck_i2l, ck_l2i, ck_cmp]) rfl ?_
          exact xZ.sub (xsc (.tail _ (.tail _ (.tail _ (.head _)))) (xsc (.tail _ (.tail _ (.tail _ (.tail _ (.head _))))) (xsc (.tail _ (.tail _ (.tail _ (.tail _ (.tail _ (.head _)))))) (xsc (.tail _ (.tail _ (.tail _ (.tail _ (.tail _ (.tail _ (.head _))))))) (xsc (.tail _ (.tail _ (.tail _ (.tail _ (.tail _ (.tail _ (.tail _ (.head _)))))))) (xsc (.tail _ (.tail _ (.tail _ (.tail _ (.tail _ (.tail _ (.tail _ (.tail _ (.head _))))))))) (xsc (.head _) xsn))))))) (show ([6, 9, 8, 0, 1, 2, 3, 4, 5, 7] : List Nat).Nodup from by decide) (hK64 v0 v1 v2 v3 v4 v5 (v6 + 1) M10)
    · skip
      refine xZ.adv (me := xm236) hP_236 1 (pc' := 180) (lv' := [(9, .int (yw x2)), (8, .int (yw x1)), (0, .ref v0), (1, .ref v1), (2, .ref v2), (3, .ref v3), (4, .ref v4), (5, .int (yw v5)), (6, .int (yw v6)), (7, .int (yw v7))]) (st' := [.int (0 : Int32)]) rfl ?_
      refine xZ.eqs (lv2 := [(9, .int (yw x2)), (8, .int (yw x1)), (0, .ref v0), (1, .ref v1), (2, .ref v2), (3, .ref v3), (4, .ref v4), (5, .int (yw v5)), (6, .int (yw v6)), (7, .int (yw v7))]) (st2 := [.int (yw 0)]) rfl (by simp only [yl_lit, yL_lit, yw_add, yw_sub, yw_mul, yw_neg, yl_add, yl_sub, yl_mul, cj_and, cj_or, cj_xor, cj_shl, cj_shr, cj_ushr, cj_div, cj_i2c, cj_i2b, cj_dc, ck_and, ck_or, ck_xor, ck_shl, ck_shr, ck_ushr, ck_i2l, ck_l2i, ck_cmp]) ?_
      exact xZ.jrete (me := xm236) hP_236 rfl rfl rfl
def f_Law_areAlike_64 (O : Nat → Option va_E) (f : Nat) : Nat → Nat → Nat → Nat → Nat → Nat → Int → Int → xM → Option (Int × xM)
  | 0, _, _, _, _, _, _, _, _ => none
  | n + 1, v0, v1, v2, v3, v4, v5, v6, M =>
    if yw v5 ≤ yw v6 then (
      f_Law_areAlike_226 O f f v0 v1 v2 v3 v4 0 M
    ) else
    (isO O M v1 15).bind fun _ =>
    xcl (f_LDraw_n O f v1 2 M) fun x1 M1 =>
    (isO O M1 v1 15).bind fun _ =>
    xcl (f_LDraw_is O f v1 2 M1) fun x2 M2 =>
    if yw x2 = yw 0 then (
      f_Law_areAlike_93 O f (f_Law_areAlike_64 O f n) v0 v1 v2 v3 v4 v5 v6 x1 v1 5 M2
    ) else
    f_Law_areAlike_93 O f (f_Law_areAlike_64 O f n) v0 v1 v2 v3 v4 v5 v6 x1 v1 48 M2
set_option maxRecDepth 20000 in
theorem k_f_Law_areAlike_64 (O : Nat → Option va_E) (f d : Nat) : ∀ (n : Nat) (v0 : Nat) (v1 : Nat) (v2 : Nat) (v3 : Nat) (v4 : Nat) (v5 : Int) (v6 : Int) (M : xM), xZ oJ O (d + 66) 236 64 [(0, .ref v0), (1, .ref v1), (2, .ref v2), (3, .ref v3), (4, .ref v4), (5, .int (yw v5)), (6, .int (yw v6))] [] M (f_Law_areAlike_64 O f n v0 v1 v2 v3 v4 v5 v6 M) := by
  intro n
  induction n with
  | zero =>
    intro v0 v1 v2 v3 v4 v5 v6 M
    exact xZ.no
  | succ n ih =>
    intro v0 v1 v2 v3 v4 v5 v6 M
    unfold f_Law_areAlike_64
    refine xZ.adv (me := xm236) hP_236 2 (pc' := 68) (lv' := [(0, .ref v0), (1, .ref v1), (2, .ref v2), (3, .ref v3), (4, .ref v4), (5, .int (yw v5)), (6, .int (yw v6))]) (st' := [.int (yw v5), .int (yw v6)]) rfl ?_
    refine xZ.jc_ge (me := xm236) hP_236 rfl (fun h1 => ?_) (fun h1 => ?_)
    · skip
      refine xZ.adv (me := xm236) hP_236 2 (pc' := 226) (lv' := [(6, .int (0 : Int32)), (0, .ref v0), (1, .ref v1), (2, .ref v2), (3, .ref v3), (4, .ref v4), (5, .int (yw v5))]) (st' := []) rfl ?_
      refine xZ.eqs (lv2 := [(6, .int (yw 0)), (0, .ref v0), (1, .ref v1), (2, .ref v2), (3, .ref v3), (4, .ref v4), (5, .int (yw v5))]) (st2 := []) (by simp only [yl_lit, yL_lit, yw_add, yw_sub, yw_mul, yw_neg, yl_add, yl_sub, yl_mul, cj_and, cj_or, cj_xor, cj_shl, cj_shr, cj_ushr, cj_div, cj_i2c, cj_i2b, cj_dc, ck_and, ck_or, ck_xor, ck_shl, ck_shr, ck_ushr, ck_i2l, ck_l2i, ck_cmp]) rfl ?_
      exact xZ.sub (xsc (.tail _ (.head _)) (xsc (.tail _ (.tail _ (.head _))) (xsc (.tail _ (.tail _ (.tail _ (.head _)))) (xsc (.tail _ (.tail _ (.tail _ (.tail _ (.head _))))) (xsc (.tail _ (.tail _ (.tail _ (.tail _ (.tail _ (.head _)))))) (xsc (.head _) xsn)))))) (show ([6, 0, 1, 2, 3, 4, 5] : List Nat).Nodup from by decide) (k_f_Law_areAlike_226 O f d f v0 v1 v2 v3 v4 0 M)
    · skip
      refine xZ.adv (me := xm236) hP_236 2 (pc' := 73) (lv' := [(0, .ref v0), (1, .ref v1), (2, .ref v2), (3, .ref v3), (4, .ref v4), (5, .int (yw v5)), (6, .int (yw v6))]) (st' := [.int (2 : Int32), .ref v1]) rfl ?_
      refine xZ.eqs (lv2 := [(0, .ref v0), (1, .ref v1), (2, .ref v2), (3, .ref v3), (4, .ref v4), (5, .int (yw v5)), (6, .int (yw v6))]) (st2 := [.int (yw 2), .ref v1]) rfl (by simp only [yl_lit, yL_lit, yw_add, yw_sub, yw_mul, yw_neg, yl_add, yl_sub, yl_mul, cj_and, cj_or, cj_xor, cj_shl, cj_shr, cj_ushr, cj_div, cj_i2c, cj_i2b, cj_dc, ck_and, ck_or, ck_xor, ck_shl, ck_shr, ck_ushr, ck_i2l, ck_l2i, ck_cmp]) ?_
      refine xZ.callv (κ := oJ) (av := [.int (yw 2)]) (rest := []) (st' := fun x1 => [.int (yw x1)]) (k0 := v1) (me := xm236) hP_236 rfl (Or.inl rfl) ⟨rfl, by decide⟩ rfl rfl (Nat.le_of_ble_eq_true rfl) (by decide) hP_12 (Nat.le_of_ble_eq_true rfl) (fun _ => rfl) (k_f_LDraw_n O f (d + 65) v1 2 M) (fun x1 M1 => ?_)
      refine xZ.adv (me := xm236) hP_236 4 (pc' := 81) (lv' := [(7, .int (yw x1)), (0, .ref v0), (1, .ref v1), (2, .ref v2), (3, .ref v3), (4, .ref v4), (5, .int (yw v5)), (6, .int (yw v6))]) (st' := [.int (2 : Int32), .ref v1, .ref v1]) rfl ?_
      refine xZ.eqs (lv2 := [(7, .int (yw x1)), (0, .ref v0), (1, .ref v1), (2, .ref v2), (3, .ref v3), (4, .ref v4), (5, .int (yw v5)), (6, .int (yw v6))]) (st2 := [.int (yw 2), .ref v1, .ref v1]) rfl (by simp only [yl_lit, yL_lit, yw_add, yw_sub, yw_mul, yw_neg, yl_add, yl_sub, yl_mul, cj_and, cj_or, cj_xor, cj_shl, cj_shr, cj_ushr, cj_div, cj_i2c, cj_i2b, cj_dc, ck_and, ck_or, ck_xor, ck_shl, ck_shr, ck_ushr, ck_i2l, ck_l2i, ck_cmp]) ?_
      refine xZ.callv (κ := oJ) (av := [.int (yw 2)]) (rest := [.ref v1]) (st' := fun x2 => [.int (yw x2), .ref v1]) (k0 := v1) (me := xm236) hP_236 rfl (Or.inl rfl) ⟨rfl, by decide⟩ rfl rfl (Nat.le_of_ble_eq_true rfl) (by decide) hP_18 (Nat.le_of_ble_eq_true rfl) (fun _ => rfl) (k_f_LDraw_is O f (d + 64) v1 2 M1) (fun x2 M2 => ?_)
      refine xZ.jf_eq (me := xm236) hP_236 rfl (fun h2 => ?_) (fun h2 => ?_)
      · skip
        refine xZ.adv (me := xm236) hP_236 1 (pc' := 93) (lv' := [(7, .int (yw x1)), (0, .ref v0), (1, .ref v1), (2, .ref v2), (3, .ref v3), (4, .ref v4), (5, .int (yw v5)), (6, .int (yw v6))]) (st' := [.int (5 : Int32), .ref v1]) rfl ?_
        refine xZ.eqs (lv2 := [(7, .int (yw x1)), (0, .ref v0), (1, .ref v1), (2, .ref v2), (3, .ref v3), (4, .ref v4), (5, .int (yw v5)), (6, .int (yw v6))]) (st2 := [.int (yw 5), .ref v1]) rfl (by simp only [yl_lit, yL_lit, yw_add, yw_sub, yw_mul, yw_neg, yl_add, yl_sub, yl_mul, cj_and, cj_or, cj_xor, cj_shl, cj_shr, cj_ushr, cj_div, cj_i2c, cj_i2b, cj_dc, ck_and, ck_or, ck_xor, ck_shl, ck_shr, ck_ushr, ck_i2l, ck_l2i, ck_cmp]) ?_
        exact xZ.sub (xsc (.tail _ (.head _)) (xsc (.tail _ (.tail _ (.head _))) (xsc (.tail _ (.tail _ (.tail _ (.head _)))) (xsc (.tail _ (.tail _ (.tail _ (.tail _ (.head _))))) (xsc (.tail _ (.tail _ (.tail _ (.tail _ (.tail _ (.head _)))))) (xsc (.tail _ (.tail _ (.tail _ (.tail _ (.tail _ (.tail _ (.head _))))))) (xsc (.tail _ (.tail _ (.tail _ (.tail _ (.tail _ (.tail _ (.tail _ (.head _)))))))) (xsc (.head _) xsn)))))))) (show ([7, 0, 1, 2, 3, 4, 5, 6] : List Nat).Nodup from by decide) (k_f_Law_areAlike_93 O f d (f_Law_areAlike_64 O f n) ih v0 v1 v2 v3 v4 v5 v6 x1 v1 5 M2)
      · skip
        refine xZ.adv (me := xm236) hP_236 2 (pc' := 93) (lv' := [(7, .int (yw x1)), (0, .ref v0), (1, .ref v1), (2, .ref v2), (3, .ref v3), (4, .ref v4), (5, .int (yw v5)), (6, .int (yw v6))]) (st' := [.int (48 : Int32), .ref v1]) rfl ?_
        refine xZ.eqs (lv2 := [(7, .int (yw x1)), (0, .ref v0), (1, .ref v1), (2, .ref v2), (3, .ref v3), (4, .ref v4), (5, .int (yw v5)), (6, .int (yw v6))]) (st2 := [.int (yw 48), .ref v1]) rfl (by simp only [yl_lit, yL_lit, yw_add, yw_sub, yw_mul, yw_neg, yl_add, yl_sub, yl_mul, cj_and, cj_or, cj_xor, cj_shl, cj_shr, cj_ushr, cj_div, cj_i2c, cj_i2b, cj_dc, ck_and, ck_or, ck_xor, ck_shl, ck_shr, ck_ushr, ck_i2l, ck_l2i, ck_cmp]) ?_
        exact xZ.sub (xsc (.tail _ (.head _)) (xsc (.tail _ (.tail _ (.head _))) (xsc (.tail _ (.tail _ (.tail _ (.head _)))) (xsc (.tail _ (.tail _ (.tail _ (.tail _ (.head _))))) (xsc (.tail _ (.tail _ (.tail _ (.tail _ (.tail _ (.head _)))))) (xsc (.tail _ (.tail _ (.tail _ (.tail _ (.tail _ (.tail _ (.head _))))))) (xsc (.tail _ (.tail _ (.tail _ (.tail _ (.tail _ (.tail _ (.tail _ (.head _)))))))) (xsc (.head _) xsn)))))))) (show ([7, 0, 1, 2, 3, 4, 5, 6] : List Nat).Nodup from by decide) (k_f_Law_areAlike_93 O f d (f_Law_areAlike_64 O f n) ih v0 v1 v2 v3 v4 v5 v6 x1 v1 48 M2)
def f_Law_areAlike_24 (O : Nat → Option va_E) (f : Nat) : Nat → Nat → Nat → Nat → Nat → Nat → Int → xM → Option (Int × xM)
  | 0, _, _, _, _, _, _, _ => none
  | n + 1, v0, v1, v2, v3, v4, v5, M =>
    if yw 48 ≤ yw v5 then (
      (isO O M v1 15).bind fun _ =>
      xcl (f_LDraw_n O f v1 40 M) fun x1 M1 =>
      f_Law_areAlike_64 O f f v0 v1 v2 v3 v4 (1 + x1) 0 M1
    ) else
    (aJR O M v3 0).bind fun x2 =>
    (wJ M x2 v5 (-1)).bind fun M2 =>
    (aJR O M2 v3 1).bind fun x3 =>
    (wJ M2 x3 v5 (-1)).bind fun M3 =>
    f_Law_areAlike_24 O f n v0 v1 v2 v3 v4 (v5 + 1) M3
set_option maxRecDepth 20000 in
theorem k_f_Law_areAlike_24 (O : Nat → Option va_E) (f d : Nat) : ∀ (n : Nat) (v0 : Nat) (v1 : Nat) (v2 : Nat) (v3 : Nat) (v4 : Nat) (v5 : Int) (M : xM), xZ oJ O (d + 66) 236 24 [(0, .ref v0), (1, .ref v1), (2, .ref v2), (3, .ref v3), (4, .ref v4), (5, .int (yw v5))] [] M (f_Law_areAlike_24 O f n v0 v1 v2 v3 v4 v5 M) := by
  intro n
  induction n with
  | zero =>
    intro v0 v1 v2 v3 v4 v5 M
    exact xZ.no
  | succ n ih =>
    intro v0 v1 v2 v3 v4 v5 M
    unfold f_Law_areAlike_24
    refine xZ.adv (me := xm236) hP_236 2 (pc' := 28) (lv' := [(0, .ref v0), (1, .ref v1), (2, .ref v2), (3, .ref v3), (4, .ref v4), (5, .int (yw v5))]) (st' := [.int (48 : Int32), .int (yw v5)]) rfl ?_
    refine xZ.eqs (lv2 := [(0, .ref v0), (1, .ref v1), (2, .ref v2), (3, .ref v3), (4, .ref v4), (5, .int (yw v5))]) (st2 := [.int (yw 48), .int (yw v5)]) rfl (by simp only [yl_lit, yL_lit, yw_add, yw_sub, yw_mul, yw_neg, yl_add, yl_sub, yl_mul, cj_and, cj_or, cj_xor, cj_shl, cj_shr, cj_ushr, cj_div, cj_i2c, cj_i2b, cj_dc, ck_and, ck_or, ck_xor, ck_shl, ck_shr, ck_ushr, ck_i2l, ck_l2i, ck_cmp]) ?_
    refine xZ.jc_ge (me := xm236) hP_236 rfl (fun h1 => ?_) (fun h1 => ?_)
    · skip
      refine xZ.adv (me := xm236) hP_236 3 (pc' := 55) (lv' := [(0, .ref v0), (1, .ref v1), (2, .ref v2), (3, .ref v3), (4, .ref v4), (5, .int (yw v5))]) (st' := [.int (40 : Int32), .ref v1, .int (1 : Int32)]) rfl ?_
      refine xZ.eqs (lv2 := [(0, .ref v0), (1, .ref v1), (2, .ref v2), (3, .ref v3), (4, .ref v4), (5, .int (yw v5))]) (st2 := [.int (yw 40), .ref v1, .int (yw 1)]) rfl (by simp only [yl_lit, yL_lit, yw_add, yw_sub, yw_mul, yw_neg, yl_add, yl_sub, yl_mul, cj_and, cj_or, cj_xor, cj_shl, cj_shr, cj_ushr, cj_div, cj_i2c, cj_i2b, cj_dc, ck_and, ck_or, ck_xor, ck_shl, ck_shr, ck_ushr, ck_i2l, ck_l2i, ck_cmp]) ?_
      refine xZ.callv (κ := oJ) (av := [.int (yw 40)]) (rest := [.int (yw 1)]) (st' := fun x1 => [.int (yw x1), .int (yw 1)]) (k0 := v1) (me := xm236) hP_236 rfl (Or.inl rfl) ⟨rfl, by decide⟩ rfl rfl (Nat.le_of_ble_eq_true rfl) (by decide) hP_12 (Nat.le_of_ble_eq_true rfl) (fun _ => rfl) (k_f_LDraw_n O f (d + 65) v1 40 M) (fun x1 M1 => ?_)
      refine xZ.adv (me := xm236) hP_236 4 (pc' := 64) (lv' := [(6, .int (0 : Int32)), (5, .int ((yw 1) + (yw x1))), (0, .ref v0), (1, .ref v1), (2, .ref v2), (3, .ref v3), (4, .ref v4)]) (st' := []) rfl ?_
      refine xZ.eqs (lv2 := [(6, .int (yw 0)), (5, .int (yw (1 + x1))), (0, .ref v0), (1, .ref v1), (2, .ref v2), (3, .ref v3), (4, .ref v4)]) (st2 := []) (by simp only [yl_lit, yL_lit, yw_add, yw_sub, yw_mul, yw_neg, yl_add, yl_sub, yl_mul, cj_and, cj_or, cj_xor, cj_shl, cj_shr, cj_ushr, cj_div, cj_i2c, cj_i2b, cj_dc, ck_and, ck_or, ck_xor, ck_shl, ck_shr, ck_ushr, ck_i2l, ck_l2i, ck_cmp]) rfl ?_
      exact xZ.sub (xsc (.tail _ (.tail _ (.head _))) (xsc (.tail _ (.tail _ (.tail _ (.head _)))) (xsc (.tail _ (.tail _ (.tail _ (.tail _ (.head _))))) (xsc (.tail _ (.tail _ (.tail _ (.tail _ (.tail _ (.head _)))))) (xsc (.tail _ (.tail _ (.tail _ (.tail _ (.tail _ (.tail _ (.head _))))))) (xsc (.tail _ (.head _)) (xsc (.head _) xsn))))))) (show ([6, 5, 0, 1, 2, 3, 4] : List Nat).Nodup from by decide) (k_f_Law_areAlike_64 O f d f v0 v1 v2 v3 v4 (1 + x1) 0 M1)
    · skip
      refine xZ.adv (me := xm236) hP_236 2 (pc' := 33) (lv' := [(0, .ref v0), (1, .ref v1), (2, .ref v2), (3, .ref v3), (4, .ref v4), (5, .int (yw v5))]) (st' := [.int (0 : Int32), .ref v3]) rfl ?_
      refine xZ.eqs (lv2 := [(0, .ref v0), (1, .ref v1), (2, .ref v2), (3, .ref v3), (4, .ref v4), (5, .int (yw v5))]) (st2 := [.int (yw 0), .ref v3]) rfl (by simp only [yl_lit, yL_lit, yw_add, yw_sub, yw_mul, yw_neg, yl_add, yl_sub, yl_mul, cj_and, cj_or, cj_xor, cj_shl, cj_shr, cj_ushr, cj_div, cj_i2c, cj_i2b, cj_dc, ck_and, ck_or, ck_xor, ck_shl, ck_shr, ck_ushr, ck_i2l, ck_l2i, ck_cmp]) ?_
      refine xZ.k_aJR (me := xm236) hP_236 rfl (fun x2 => ?_)
      refine xZ.adv (me := xm236) hP_236 2 (pc' := 37) (lv' := [(0, .ref v0), (1, .ref v1), (2, .ref v2), (3, .ref v3), (4, .ref v4), (5, .int (yw v5))]) (st' := [.int (-1 : Int32), .int (yw v5), .ref x2]) rfl ?_
      refine xZ.eqs (lv2 := [(0, .ref v0), (1, .ref v1), (2, .ref v2), (3, .ref v3), (4, .ref v4), (5, .int (yw v5))]) (st2 := [.int (yw (-1)), .int (yw v5), .ref x2]) rfl (by simp only [yl_lit, yL_lit, yw_add, yw_sub, yw_mul, yw_neg, yl_add, yl_sub, yl_mul, cj_and, cj_or, cj_xor, cj_shl, cj_shr, cj_ushr, cj_div, cj_i2c, cj_i2b, cj_dc, ck_and, ck_or, ck_xor, ck_shl, ck_shr, ck_ushr, ck_i2l, ck_l2i, ck_cmp]) ?_
      refine xZ.k_wJ (me := xm236) hP_236 rfl (fun M2 => ?_)
      refine xZ.adv (me := xm236) hP_236 2 (pc' := 40) (lv' := [(0, .ref v0), (1, .ref v1), (2, .ref v2), (3, .ref v3), (4, .ref v4), (5, .int (yw v5))]) (st' := [.int (1 : Int32), .ref v3]) rfl ?_
      refine xZ.eqs (lv2 := [(0, .ref v0), (1, .ref v1), (2, .ref v2), (3, .ref v3), (4, .ref v4), (5, .int (yw v5))]) (st2 := [.int (yw 1), .ref v3]) rfl (by simp only [yl_lit, yL_lit, yw_add, yw_sub, yw_mul, yw_neg, yl_add, yl_sub, yl_mul, cj_and, cj_or, cj_xor, cj_shl, cj_shr, cj_ushr, cj_div, cj_i2c, cj_i2b, cj_dc, ck_and, ck_or, ck_xor, ck_shl, ck_shr, ck_ushr, ck_i2l, ck_l2i, ck_cmp]) ?_
      refine xZ.k_aJR (me := xm236) hP_236 rfl (fun x3 => ?_)
      refine xZ.adv (me := xm236) hP_236 2 (pc' := 44) (lv' := [(0, .ref v0), (1, .ref v1), (2, .ref v2), (3, .ref v3), (4, .ref v4), (5, .int (yw v5))]) (st' := [.int (-1 : Int32), .int (yw v5), .ref x3]) rfl ?_
      refine xZ.eqs (lv2 := [(0, .ref v0), (1, .ref v1), (2, .ref v2), (3, .ref v3), (4, .ref v4), (5, .int (yw v5))]) (st2 := [.int (yw (-1)), .int (yw v5), .ref x3]) rfl (by simp only [yl_lit, yL_lit, yw_add, yw_sub, yw_mul, yw_neg, yl_add, yl_sub, yl_mul, cj_and, cj_or, cj_xor, cj_shl, cj_shr, cj_ushr, cj_div, cj_i2c, cj_i2b, cj_dc, ck_and, ck_or, ck_xor, ck_shl, ck_shr, ck_ushr, ck_i2l, ck_l2i, ck_cmp]) ?_
      refine xZ.k_wJ (me := xm236) hP_236 rfl (fun M3 => ?_)
      refine xZ.adv (me := xm236) hP_236 2 (pc' := 24) (lv' := [(5, .int ((yw v5) + (1 : Int32))), (0, .ref v0), (1, .ref v1), (2, .ref v2), (3, .ref v3), (4, .ref v4)]) (st' := []) rfl ?_
      refine xZ.eqs (lv2 := [(5, .int (yw (v5 + 1))), (0, .ref v0), (1, .ref v1), (2, .ref v2), (3, .ref v3), (4, .ref v4)]) (st2 := []) (by simp only [yl_lit, yL_lit, yw_add, yw_sub, yw_mul, yw_neg, yl_add, yl_sub, yl_mul, cj_and, cj_or, cj_xor, cj_shl, cj_shr, cj_ushr, cj_div, cj_i2c, cj_i2b, cj_dc, ck_and, ck_or, ck_xor, ck_shl, ck_shr, ck_ushr, ck_i2l, ck_l2i, ck_cmp]) rfl ?_
      exact xZ.sub (xsc (.tail _ (.head _)) (xsc (.tail _ (.tail _ (.head _))) (xsc (.tail _ (.tail _ (.tail _ (.head _)))) (xsc (.tail _ (.tail _ (.tail _ (.tail _ (.head _))))) (xsc (.tail _ (.tail _ (.tail _ (.tail _ (.tail _ (.head _)))))) (xsc (.head _) xsn)))))) (show ([5, 0, 1, 2, 3, 4] : List Nat).Nodup from by decide) (ih v0 v1 v2 v3 v4 (v5 + 1) M3)
def f_Law_areAlike (O : Nat → Option va_E) (f : Nat) (v0 : Nat) (v1 : Nat) (M : xM) : Option (Int × xM) :=
  xcl (nAJ M 0 2) fun x1 M1 =>
  xcl (nMJ M1 2 48) fun x2 M2 =>
  xcl (nMJ M2 2 48) fun x3 M3 =>
  f_Law_areAlike_24 O f f v0 v1 x1 x2 x3 0 M3
set_option maxRecDepth 20000 in
theorem k_f_Law_areAlike (O : Nat → Option va_E) (f d : Nat) (v0 : Nat) (v1 : Nat) (M : xM) : xZ oJ O (d + 66) 236 0 [(0, .ref v0), (1, .ref v1)] [] M (f_Law_areAlike O f v0 v1 M) := by
  unfold f_Law_areAlike
  refine xZ.adv (me := xm236) hP_236 1 (pc' := 1) (lv' := [(0, .ref v0), (1, .ref v1)]) (st' := [.int (2 : Int32)]) rfl ?_
  refine xZ.eqs (lv2 := [(0, .ref v0), (1, .ref v1)]) (st2 := [.int (yw 2)]) rfl (by simp only [yl_lit, yL_lit, yw_add, yw_sub, yw_mul, yw_neg, yl_add, yl_sub, yl_mul, cj_and, cj_or, cj_xor, cj_shl, cj_shr, cj_ushr, cj_div, cj_i2c, cj_i2b, cj_dc, ck_and, ck_or, ck_xor, ck_shl, ck_shr, ck_ushr, ck_i2l, ck_l2i, ck_cmp]) ?_
  refine xZ.k_nAJ (me := xm236) hP_236 rfl rfl (by decide) (fun x1 M1 => ?_)
  refine xZ.adv (me := xm236) hP_236 3 (pc' := 7) (lv' := [(2, .ref x1), (0, .ref v0), (1, .ref v1)]) (st' := [.int (48 : Int32), .int (2 : Int32)]) rfl ?_
  refine xZ.eqs (lv2 := [(2, .ref x1), (0, .ref v0), (1, .ref v1)]) (st2 := [.int (yw 48), .int (yw 2)]) rfl (by simp only [yl_lit, yL_lit, yw_add, yw_sub, yw_mul, yw_neg, yl_add, yl_sub, yl_mul, cj_and, cj_or, cj_xor, cj_shl, cj_shr, cj_ushr, cj_div, cj_i2c, cj_i2b, cj_dc, ck_and, ck_or, ck_xor, ck_shl, ck_shr, ck_ushr, ck_i2l, ck_l2i, ck_cmp]) ?_
  refine xZ.nMj (me := xm236) hP_236 rfl (fun x2 M2 => ?_)
  refine xZ.adv (me := xm236) hP_236 3 (pc' := 15) (lv' := [(3, .ref x2), (2, .ref x1), (0, .ref v0), (1, .ref v1)]) (st' := [.int (48 : Int32), .int (2 : Int32)]) rfl ?_
  refine xZ.eqs (lv2 := [(3, .ref x2), (2, .ref x1), (0, .ref v0), (1, .ref v1)]) (st2 := [.int (yw 48), .int (yw 2)]) rfl (by simp only [yl_lit, yL_lit, yw_add, yw_sub, yw_mul, yw_neg, yl_add, yl_sub, yl_mul, cj_and, cj_or, cj_xor, cj_shl, cj_shr, cj_ushr, cj_div, cj_i2c, cj_i2b, cj_dc, ck_and, ck_or, ck_xor, ck_shl, ck_shr, ck_ushr, ck_i2l, ck_l2i, ck_cmp]) ?_
  refine xZ.nMj (me := xm236) hP_236 rfl (fun x3 M3 => ?_)
  refine xZ.adv (me := xm236) hP_236 3 (pc' := 24) (lv' := [(5, .int (0 : Int32)), (4, .ref x3), (3, .ref x2), (2, .ref x1), (0, .ref v0), (1, .ref v1)]) (st' := []) rfl ?_
  refine xZ.eqs (lv2 := [(5, .int (yw 0)), (4, .ref x3), (3, .ref x2), (2, .ref x1), (0, .ref v0), (1, .ref v1)]) (st2 := []) (by simp only [yl_lit, yL_lit, yw_add, yw_sub, yw_mul, yw_neg, yl_add, yl_sub, yl_mul, cj_and, cj_or, cj_xor, cj_shl, cj_shr, cj_ushr, cj_div, cj_i2c, cj_i2b, cj_dc, ck_and, ck_or, ck_xor, ck_shl, ck_shr, ck_ushr, ck_i2l, ck_l2i, ck_cmp]) rfl ?_
  exact xZ.sub (xsc (.tail _ (.tail _ (.tail _ (.tail _ (.head _))))) (xsc (.tail _ (.tail _ (.tail _ (.tail _ (.tail _ (.head _)))))) (xsc (.tail _ (.tail _ (.tail _ (.head _)))) (xsc (.tail _ (.tail _ (.head _))) (xsc (.tail _ (.head _)) (xsc (.head _) xsn)))))) (show ([5, 4, 3, 2, 0, 1] : List Nat).Nodup from by decide) (k_f_Law_areAlike_24 O f d f v0 v1 x1 x2 x3 0 M3)
