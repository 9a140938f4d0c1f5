/-! ===== texts ===== -/
def f_Reader_parseUnit (O : Nat → Option va_E) (f : Nat) (v0 : Nat) (M : xM) : Option (Int × xM) :=
  (isO O M v0 8).bind fun _ =>
  xcl (f_Reader_takes O f v0 1000000042 M) fun x1 M1 =>
  if yw x1 = yw 0 then (
    (isO O M1 v0 8).bind fun _ =>
    xcl (f_Reader_takes O f v0 1000000046 M1) fun x2 M2 =>
    if yw x2 = yw 0 then (
      (isO O M2 v0 8).bind fun _ =>
      xcl (f_Reader_takes O f v0 1000000060 M2) fun x3 M3 =>
      if yw x3 = yw 0 then (
        (isO O M3 v0 8).bind fun _ =>
        xcl (f_Reader_takes O f v0 1000000066 M3) fun x4 M4 =>
        if yw x4 = yw 0 then (
          some (0, M4)
        ) else
        (isO O M4 v0 8).bind fun _ =>
        xcl (f_Reader_takes O f v0 1000000062 M4) fun x5 M5 =>
        if yw x5 = yw 0 then (
          some (0, M5)
        ) else
        (isO O M5 v0 8).bind fun _ =>
        xcl (f_Reader_parseWhich O f v0 M5) fun x6 M6 =>
        if yw x6 = yw 0 then (
          some (0, M6)
        ) else
        some (1, M6)
      ) else
      (gR O M3 v0 8 1).bind fun x7 =>
      (pJ M3 x7 9 1 2).bind fun M7 =>
      (isO O M7 v0 8).bind fun _ =>
      xcl (f_Reader_takes O f v0 1000000062 M7) fun x8 M8 =>
      if yw x8 = yw 0 then (
        some (0, M8)
      ) else
      (isO O M8 v0 8).bind fun _ =>
      xcl (f_Reader_parseDays O f v0 M8) fun x9 M9 =>
      if yw x9 = yw 0 then (
        some (0, M9)
      ) else
      some (1, M9)
    ) else
    (gR O M2 v0 8 1).bind fun x10 =>
    (pJ M2 x10 9 1 5).bind fun M10 =>
    some (1, M10)
  ) else
  (gR O M1 v0 8 1).bind fun x11 =>
  (pJ M1 x11 9 1 1).bind fun M11 =>
  some (1, M11)
set_option maxRecDepth 20000 in
theorem k_f_Reader_parseUnit (O : Nat → Option va_E) (f d : Nat) (v0 : Nat) (M : xM) : xZ oJ O (d + 7) 71 0 [(0, .ref v0)] [] M (f_Reader_parseUnit O f v0 M) := by
  unfold f_Reader_parseUnit
  refine xZ.adv (me := xm71) hP_71 2 (pc' := 3) (lv' := [(0, .ref v0)]) (st' := [.ref 1000000042, .ref v0]) rfl ?_
  refine xZ.callv (κ := oJ) (av := [.ref 1000000042]) (rest := []) (st' := fun x1 => [.int (yw x1)]) (k0 := v0) (me := xm71) hP_71 rfl (Or.inl rfl) ⟨rfl, by decide⟩ rfl rfl (Nat.le_of_ble_eq_true rfl) (by decide) hP_68 (Nat.le_of_ble_eq_true rfl) (fun _ => rfl) (k_f_Reader_takes O f (d + 1) v0 1000000042 M) (fun x1 M1 => ?_)
  refine xZ.jf_eq (me := xm71) hP_71 rfl (fun h1 => ?_) (fun h1 => ?_)
  · skip
    refine xZ.adv (me := xm71) hP_71 2 (pc' := 22) (lv' := [(0, .ref v0)]) (st' := [.ref 1000000046, .ref v0]) rfl ?_
    refine xZ.callv (κ := oJ) (av := [.ref 1000000046]) (rest := []) (st' := fun x2 => [.int (yw x2)]) (k0 := v0) (me := xm71) hP_71 rfl (Or.inl rfl) ⟨rfl, by decide⟩ rfl rfl (Nat.le_of_ble_eq_true rfl) (by decide) hP_68 (Nat.le_of_ble_eq_true rfl) (fun _ => rfl) (k_f_Reader_takes O f (d + 1) v0 1000000046 M1) (fun x2 M2 => ?_)
    refine xZ.jf_eq (me := xm71) hP_71 rfl (fun h2 => ?_) (fun h2 => ?_)
    · skip
      refine xZ.adv (me := xm71) hP_71 2 (pc' := 41) (lv' := [(0, .ref v0)]) (st' := [.ref 1000000060, .ref v0]) rfl ?_
      refine xZ.callv (κ := oJ) (av := [.ref 1000000060]) (rest := []) (st' := fun x3 => [.int (yw x3)]) (k0 := v0) (me := xm71) hP_71 rfl (Or.inl rfl) ⟨rfl, by decide⟩ rfl rfl (Nat.le_of_ble_eq_true rfl) (by decide) hP_68 (Nat.le_of_ble_eq_true rfl) (fun _ => rfl) (k_f_Reader_takes O f (d + 1) v0 1000000060 M2) (fun x3 M3 => ?_)
      refine xZ.jf_eq (me := xm71) hP_71 rfl (fun h3 => ?_) (fun h3 => ?_)
      · skip
        refine xZ.adv (me := xm71) hP_71 2 (pc' := 80) (lv' := [(0, .ref v0)]) (st' := [.ref 1000000066, .ref v0]) rfl ?_
        refine xZ.callv (κ := oJ) (av := [.ref 1000000066]) (rest := []) (st' := fun x4 => [.int (yw x4)]) (k0 := v0) (me := xm71) hP_71 rfl (Or.inl rfl) ⟨rfl, by decide⟩ rfl rfl (Nat.le_of_ble_eq_true rfl) (by decide) hP_68 (Nat.le_of_ble_eq_true rfl) (fun _ => rfl) (k_f_Reader_takes O f (d + 1) v0 1000000066 M3) (fun x4 M4 => ?_)
        refine xZ.jf_eq (me := xm71) hP_71 rfl (fun h4 => ?_) (fun h4 => ?_)
        · skip
          refine xZ.adv (me := xm71) hP_71 1 (pc' := 107) (lv' := [(0, .ref v0)]) (st' := [.int (0 : Int32)]) rfl ?_
          refine xZ.eqs (lv2 := [(0, .ref v0)]) (st2 := [.int (yw 0)]) rfl (by simp only [yl_lit, yL_lit, yw_add, yw_sub, yw_mul, yw_neg, yl_add, yl_sub, yl_mul, cj_and, cj_or, cj_xor, cj_shl, cj_shr, cj_ushr, cj_div, cj_i2c, cj_i2b, cj_dc, ck_and, ck_or, ck_xor, ck_shl, ck_shr, ck_ushr, ck_i2l, ck_l2i, ck_cmp]) ?_
          exact xZ.jrete (me := xm71) hP_71 rfl rfl rfl
        · skip
          refine xZ.adv (me := xm71) hP_71 2 (pc' := 89) (lv' := [(0, .ref v0)]) (st' := [.ref 1000000062, .ref v0]) rfl ?_
          refine xZ.callv (κ := oJ) (av := [.ref 1000000062]) (rest := []) (st' := fun x5 => [.int (yw x5)]) (k0 := v0) (me := xm71) hP_71 rfl (Or.inl rfl) ⟨rfl, by decide⟩ rfl rfl (Nat.le_of_ble_eq_true rfl) (by decide) hP_68 (Nat.le_of_ble_eq_true rfl) (fun _ => rfl) (k_f_Reader_takes O f (d + 1) v0 1000000062 M4) (fun x5 M5 => ?_)
          refine xZ.jf_eq (me := xm71) hP_71 rfl (fun h5 => ?_) (fun h5 => ?_)
          · skip
            refine xZ.adv (me := xm71) hP_71 1 (pc' := 107) (lv' := [(0, .ref v0)]) (st' := [.int (0 : Int32)]) rfl ?_
            refine xZ.eqs (lv2 := [(0, .ref v0)]) (st2 := [.int (yw 0)]) rfl (by simp only [yl_lit, yL_lit, yw_add, yw_sub, yw_mul, yw_neg, yl_add, yl_sub, yl_mul, cj_and, cj_or, cj_xor, cj_shl, cj_shr, cj_ushr, cj_div, cj_i2c, cj_i2b, cj_dc, ck_and, ck_or, ck_xor, ck_shl, ck_shr, ck_ushr, ck_i2l, ck_l2i, ck_cmp]) ?_
            exact xZ.jrete (me := xm71) hP_71 rfl rfl rfl
          · skip
            refine xZ.adv (me := xm71) hP_71 1 (pc' := 96) (lv' := [(0, .ref v0)]) (st' := [.ref v0]) rfl ?_
            refine xZ.callv (κ := oJ) (av := []) (rest := []) (st' := fun x6 => [.int (yw x6)]) (k0 := v0) (me := xm71) hP_71 rfl (Or.inl rfl) ⟨rfl, by decide⟩ rfl rfl (Nat.le_of_ble_eq_true rfl) (by decide) hP_74 (Nat.le_of_ble_eq_true rfl) (fun _ => rfl) (k_f_Reader_parseWhich O f (d + 0) v0 M5) (fun x6 M6 => ?_)
            refine xZ.jf_eq (me := xm71) hP_71 rfl (fun h6 => ?_) (fun h6 => ?_)
            · skip
              refine xZ.adv (me := xm71) hP_71 1 (pc' := 107) (lv' := [(0, .ref v0)]) (st' := [.int (0 : Int32)]) rfl ?_
              refine xZ.eqs (lv2 := [(0, .ref v0)]) (st2 := [.int (yw 0)]) rfl (by simp only [yl_lit, yL_lit, yw_add, yw_sub, yw_mul, yw_neg, yl_add, yl_sub, yl_mul, cj_and, cj_or, cj_xor, cj_shl, cj_shr, cj_ushr, cj_div, cj_i2c, cj_i2b, cj_dc, ck_and, ck_or, ck_xor, ck_shl, ck_shr, ck_ushr, ck_i2l, ck_l2i, ck_cmp]) ?_
              exact xZ.jrete (me := xm71) hP_71 rfl rfl rfl
            · skip
              refine xZ.adv (me := xm71) hP_71 2 (pc' := 107) (lv' := [(0, .ref v0)]) (st' := [.int (1 : Int32)]) rfl ?_
              refine xZ.eqs (lv2 := [(0, .ref v0)]) (st2 := [.int (yw 1)]) rfl (by simp only [yl_lit, yL_lit, yw_add, yw_sub, yw_mul, yw_neg, yl_add, yl_sub, yl_mul, cj_and, cj_or, cj_xor, cj_shl, cj_shr, cj_ushr, cj_div, cj_i2c, cj_i2b, cj_dc, ck_and, ck_or, ck_xor, ck_shl, ck_shr, ck_ushr, ck_i2l, ck_l2i, ck_cmp]) ?_
              exact xZ.jrete (me := xm71) hP_71 rfl rfl rfl
      · skip
        refine xZ.adv (me := xm71) hP_71 1 (pc' := 48) (lv' := [(0, .ref v0)]) (st' := [.ref v0]) rfl ?_
        refine xZ.k_gR (me := xm71) hP_71 rfl (fun x7 => ?_)
        refine xZ.adv (me := xm71) hP_71 1 (pc' := 52) (lv' := [(0, .ref v0)]) (st' := [.int (2 : Int32), .ref x7]) rfl ?_
        refine xZ.eqs (lv2 := [(0, .ref v0)]) (st2 := [.int (yw 2), .ref x7]) rfl (by simp only [yl_lit, yL_lit, yw_add, yw_sub, yw_mul, yw_neg, yl_add, yl_sub, yl_mul, cj_and, cj_or, cj_xor, cj_shl, cj_shr, cj_ushr, cj_div, cj_i2c, cj_i2b, cj_dc, ck_and, ck_or, ck_xor, ck_shl, ck_shr, ck_ushr, ck_i2l, ck_l2i, ck_cmp]) ?_
        refine xZ.k_pJ (me := xm71) hP_71 rfl (fun M7 => ?_)
        refine xZ.adv (me := xm71) hP_71 2 (pc' := 58) (lv' := [(0, .ref v0)]) (st' := [.ref 1000000062, .ref v0]) rfl ?_
        refine xZ.callv (κ := oJ) (av := [.ref 1000000062]) (rest := []) (st' := fun x8 => [.int (yw x8)]) (k0 := v0) (me := xm71) hP_71 rfl (Or.inl rfl) ⟨rfl, by decide⟩ rfl rfl (Nat.le_of_ble_eq_true rfl) (by decide) hP_68 (Nat.le_of_ble_eq_true rfl) (fun _ => rfl) (k_f_Reader_takes O f (d + 1) v0 1000000062 M7) (fun x8 M8 => ?_)
        refine xZ.jf_eq (me := xm71) hP_71 rfl (fun h7 => ?_) (fun h7 => ?_)
        · skip
          refine xZ.adv (me := xm71) hP_71 1 (pc' := 76) (lv' := [(0, .ref v0)]) (st' := [.int (0 : Int32)]) rfl ?_
          refine xZ.eqs (lv2 := [(0, .ref v0)]) (st2 := [.int (yw 0)]) rfl (by simp only [yl_lit, yL_lit, yw_add, yw_sub, yw_mul, yw_neg, yl_add, yl_sub, yl_mul, cj_and, cj_or, cj_xor, cj_shl, cj_shr, cj_ushr, cj_div, cj_i2c, cj_i2b, cj_dc, ck_and, ck_or, ck_xor, ck_shl, ck_shr, ck_ushr, ck_i2l, ck_l2i, ck_cmp]) ?_
          exact xZ.jrete (me := xm71) hP_71 rfl rfl rfl
        · skip
          refine xZ.adv (me := xm71) hP_71 1 (pc' := 65) (lv' := [(0, .ref v0)]) (st' := [.ref v0]) rfl ?_
          refine xZ.callv (κ := oJ) (av := []) (rest := []) (st' := fun x9 => [.int (yw x9)]) (k0 := v0) (me := xm71) hP_71 rfl (Or.inl rfl) ⟨rfl, by decide⟩ rfl rfl (Nat.le_of_ble_eq_true rfl) (by decide) hP_72 (Nat.le_of_ble_eq_true rfl) (fun _ => rfl) (k_f_Reader_parseDays O f (d + 1) v0 M8) (fun x9 M9 => ?_)
          refine xZ.jf_eq (me := xm71) hP_71 rfl (fun h8 => ?_) (fun h8 => ?_)
          · skip
            refine xZ.adv (me := xm71) hP_71 1 (pc' := 76) (lv' := [(0, .ref v0)]) (st' := [.int (0 : Int32)]) rfl ?_
            refine xZ.eqs (lv2 := [(0, .ref v0)]) (st2 := [.int (yw 0)]) rfl (by simp only [yl_lit, yL_lit, yw_add, yw_sub, yw_mul, yw_neg, yl_add, yl_sub, yl_mul, cj_and, cj_or, cj_xor, cj_shl, cj_shr, cj_ushr, cj_div, cj_i2c, cj_i2b, cj_dc, ck_and, ck_or, ck_xor, ck_shl, ck_shr, ck_ushr, ck_i2l, ck_l2i, ck_cmp]) ?_
            exact xZ.jrete (me := xm71) hP_71 rfl rfl rfl
          · skip
            refine xZ.adv (me := xm71) hP_71 2 (pc' := 76) (lv' := [(0, .ref v0)]) (st' := [.int (1 : Int32)]) rfl ?_
            refine xZ.eqs (lv2 := [(0, .ref v0)]) (st2 := [.int (yw 1)]) rfl (by simp only [yl_lit, yL_lit, yw_add, yw_sub, yw_mul, yw_neg, yl_add, yl_sub, yl_mul, cj_and, cj_or, cj_xor, cj_shl, cj_shr, cj_ushr, cj_div, cj_i2c, cj_i2b, cj_dc, ck_and, ck_or, ck_xor, ck_shl, ck_shr, ck_ushr, ck_i2l, ck_l2i, ck_cmp]) ?_
            exact xZ.jrete (me := xm71) hP_71 rfl rfl rfl
    · skip
      refine xZ.adv (me := xm71) hP_71 1 (pc' := 29) (lv' := [(0, .ref v0)]) (st' := [.ref v0]) rfl ?_
      refine xZ.k_gR (me := xm71) hP_71 rfl (fun x10 => ?_)
      refine xZ.adv (me := xm71) hP_71 1 (pc' := 33) (lv' := [(0, .ref v0)]) (st' := [.int (5 : Int32), .ref x10]) rfl ?_
      refine xZ.eqs (lv2 := [(0, .ref v0)]) (st2 := [.int (yw 5), .ref x10]) rfl (by simp only [yl_lit, yL_lit, yw_add, yw_sub, yw_mul, yw_neg, yl_add, yl_sub, yl_mul, cj_and, cj_or, cj_xor, cj_shl, cj_shr, cj_ushr, cj_div, cj_i2c, cj_i2b, cj_dc, ck_and, ck_or, ck_xor, ck_shl, ck_shr, ck_ushr, ck_i2l, ck_l2i, ck_cmp]) ?_
      refine xZ.k_pJ (me := xm71) hP_71 rfl (fun M10 => ?_)
      refine xZ.adv (me := xm71) hP_71 1 (pc' := 37) (lv' := [(0, .ref v0)]) (st' := [.int (1 : Int32)]) rfl ?_
      refine xZ.eqs (lv2 := [(0, .ref v0)]) (st2 := [.int (yw 1)]) rfl (by simp only [yl_lit, yL_lit, yw_add, yw_sub, yw_mul, yw_neg, yl_add, yl_sub, yl_mul, cj_and, cj_or, cj_xor, cj_shl, cj_shr, cj_ushr, cj_div, cj_i2c, cj_i2b, cj_dc, ck_and, ck_or, ck_xor, ck_shl, ck_shr, ck_ushr, ck_i2l, ck_l2i, ck_cmp]) ?_
      exact xZ.jrete (me := xm71) hP_71 rfl rfl rfl
  · skip
    refine xZ.adv (me := xm71) hP_71 1 (pc' := 10) (lv' := [(0, .ref v0)]) (st' := [.ref v0]) rfl ?_
    refine xZ.k_gR (me := xm71) hP_71 rfl (fun x11 => ?_)
    refine xZ.adv (me := xm71) hP_71 1 (pc' := 14) (lv' := [(0, .ref v0)]) (st' := [.int (1 : Int32), .ref x11]) rfl ?_
    refine xZ.eqs (lv2 := [(0, .ref v0)]) (st2 := [.int (yw 1), .ref x11]) rfl (by simp only [yl_lit, yL_lit, yw_add, yw_sub, yw_mul, yw_neg, yl_add, yl_sub, yl_mul, cj_and, cj_or, cj_xor, cj_shl, cj_shr, cj_ushr, cj_div, cj_i2c, cj_i2b, cj_dc, ck_and, ck_or, ck_xor, ck_shl, ck_shr, ck_ushr, ck_i2l, ck_l2i, ck_cmp]) ?_
    refine xZ.k_pJ (me := xm71) hP_71 rfl (fun M11 => ?_)
    refine xZ.adv (me := xm71) hP_71 1 (pc' := 18) (lv' := [(0, .ref v0)]) (st' := [.int (1 : Int32)]) rfl ?_
    refine xZ.eqs (lv2 := [(0, .ref v0)]) (st2 := [.int (yw 1)]) rfl (by simp only [yl_lit, yL_lit, yw_add, yw_sub, yw_mul, yw_neg, yl_add, yl_sub, yl_mul, cj_and, cj_or, cj_xor, cj_shl, cj_shr, cj_ushr, cj_div, cj_i2c, cj_i2b, cj_dc, ck_and, ck_or, ck_xor, ck_shl, ck_shr, ck_ushr, ck_i2l, ck_l2i, ck_cmp]) ?_
    exact xZ.jrete (me := xm71) hP_71 rfl rfl rfl
def f_Reader_parseKind_65 (O : Nat → Option va_E) (f : Nat) (v0 : Nat) (M : xM) : Option (Int × xM) :=
  (isO O M v0 8).bind fun _ =>
  xcl (f_Reader_parseUnit O f v0 M) fun x1 M1 =>
  if xfit .boolean (.int (yw x1)) = true then some (x1, M1) else none
set_option maxRecDepth 20000 in
theorem k_f_Reader_parseKind_65 (O : Nat → Option va_E) (f d : Nat) (v0 : Nat) (M : xM) : xZ oJ O (d + 8) 67 65 [(0, .ref v0)] [] M (f_Reader_parseKind_65 O f v0 M) := by
  unfold f_Reader_parseKind_65
  refine xZ.adv (me := xm67) hP_67 1 (pc' := 66) (lv' := [(0, .ref v0)]) (st' := [.ref v0]) rfl ?_
  refine xZ.callv (κ := oJ) (av := []) (rest := []) (st' := fun x1 => [.int (yw x1)]) (k0 := v0) (me := xm67) hP_67 rfl (Or.inl rfl) ⟨rfl, by decide⟩ rfl rfl (Nat.le_of_ble_eq_true rfl) (by decide) hP_71 (Nat.le_of_ble_eq_true rfl) (fun _ => rfl) (k_f_Reader_parseUnit O f (d + 0) v0 M) (fun x1 M1 => ?_)
  exact xZ.jretf (me := xm67) hP_67 rfl rfl
def f_Reader_parseKind (O : Nat → Option va_E) (f : Nat) (v0 : Nat) (M : xM) : Option (Int × xM) :=
  (isO O M v0 8).bind fun _ =>
  xcl (f_Reader_takes O f v0 1000000040 M) fun x1 M1 =>
  if yw x1 = yw 0 then (
    (isO O M1 v0 8).bind fun _ =>
    xcl (f_Reader_takes O f v0 1000000058 M1) fun x2 M2 =>
    if yw x2 = yw 0 then (
      some (0, M2)
    ) else
    (gR O M2 v0 8 1).bind fun x3 =>
    (pJ M2 x3 9 2 1).bind fun M3 =>
    (gJ O M3 v0 8 5).bind fun x4 =>
    if yw x4 = yw 1 then (
      (isO O M3 v0 8).bind fun _ =>
      xcl (f_Reader_isNumber O f v0 1 99 M3) fun x5 M4 =>
      if yw x5 = yw 0 then (
        some (0, M4)
      ) else
      (gR O M4 v0 8 1).bind fun x6 =>
      (gJ O M4 v0 8 6).bind fun x7 =>
      (pJ M4 x6 9 2 x7).bind fun M5 =>
      (isO O M5 v0 8).bind fun _ =>
      xcl (f_Reader_goOn O f v0 M5) fun _ M6 =>
      f_Reader_parseKind_65 O f v0 M6
    ) else
    f_Reader_parseKind_65 O f v0 M3
  ) else
  some (1, M1)
set_option maxRecDepth 20000 in
theorem k_f_Reader_parseKind (O : Nat → Option va_E) (f d : Nat) (v0 : Nat) (M : xM) : xZ oJ O (d + 8) 67 0 [(0, .ref v0)] [] M (f_Reader_parseKind O f v0 M) := by
  unfold f_Reader_parseKind
  refine xZ.adv (me := xm67) hP_67 2 (pc' := 3) (lv' := [(0, .ref v0)]) (st' := [.ref 1000000040, .ref v0]) rfl ?_
  refine xZ.callv (κ := oJ) (av := [.ref 1000000040]) (rest := []) (st' := fun x1 => [.int (yw x1)]) (k0 := v0) (me := xm67) hP_67 rfl (Or.inl rfl) ⟨rfl, by decide⟩ rfl rfl (Nat.le_of_ble_eq_true rfl) (by decide) hP_68 (Nat.le_of_ble_eq_true rfl) (fun _ => rfl) (k_f_Reader_takes O f (d + 2) v0 1000000040 M) (fun x1 M1 => ?_)
  refine xZ.jf_eq (me := xm67) hP_67 rfl (fun h1 => ?_) (fun h1 => ?_)
  · skip
    refine xZ.adv (me := xm67) hP_67 2 (pc' := 14) (lv' := [(0, .ref v0)]) (st' := [.ref 1000000058, .ref v0]) rfl ?_
    refine xZ.callv (κ := oJ) (av := [.ref 1000000058]) (rest := []) (st' := fun x2 => [.int (yw x2)]) (k0 := v0) (me := xm67) hP_67 rfl (Or.inl rfl) ⟨rfl, by decide⟩ rfl rfl (Nat.le_of_ble_eq_true rfl) (by decide) hP_68 (Nat.le_of_ble_eq_true rfl) (fun _ => rfl) (k_f_Reader_takes O f (d + 2) v0 1000000058 M1) (fun x2 M2 => ?_)
    refine xZ.jf_ne (me := xm67) hP_67 rfl (fun h2 => ?_) (fun h2 => ?_)
    · skip
      refine xZ.adv (me := xm67) hP_67 1 (pc' := 21) (lv' := [(0, .ref v0)]) (st' := [.int (0 : Int32)]) rfl ?_
      refine xZ.eqs (lv2 := [(0, .ref v0)]) (st2 := [.int (yw 0)]) rfl (by simp only [yl_lit, yL_lit, yw_add, yw_sub, yw_mul, yw_neg, yl_add, yl_sub, yl_mul, cj_and, cj_or, cj_xor, cj_shl, cj_shr, cj_ushr, cj_div, cj_i2c, cj_i2b, cj_dc, ck_and, ck_or, ck_xor, ck_shl, ck_shr, ck_ushr, ck_i2l, ck_l2i, ck_cmp]) ?_
      exact xZ.jrete (me := xm67) hP_67 rfl rfl rfl
    · skip
      refine xZ.adv (me := xm67) hP_67 1 (pc' := 23) (lv' := [(0, .ref v0)]) (st' := [.ref v0]) rfl ?_
      refine xZ.k_gR (me := xm67) hP_67 rfl (fun x3 => ?_)
      refine xZ.adv (me := xm67) hP_67 1 (pc' := 27) (lv' := [(0, .ref v0)]) (st' := [.int (1 : Int32), .ref x3]) rfl ?_
      refine xZ.eqs (lv2 := [(0, .ref v0)]) (st2 := [.int (yw 1), .ref x3]) rfl (by simp only [yl_lit, yL_lit, yw_add, yw_sub, yw_mul, yw_neg, yl_add, yl_sub, yl_mul, cj_and, cj_or, cj_xor, cj_shl, cj_shr, cj_ushr, cj_div, cj_i2c, cj_i2b, cj_dc, ck_and, ck_or, ck_xor, ck_shl, ck_shr, ck_ushr, ck_i2l, ck_l2i, ck_cmp]) ?_
      refine xZ.k_pJ (me := xm67) hP_67 rfl (fun M3 => ?_)
      refine xZ.adv (me := xm67) hP_67 1 (pc' := 31) (lv' := [(0, .ref v0)]) (st' := [.ref v0]) rfl ?_
      refine xZ.k_gJ (me := xm67) hP_67 rfl (fun x4 => ?_)
      refine xZ.adv (me := xm67) hP_67 1 (pc' := 35) (lv' := [(0, .ref v0)]) (st' := [.int (1 : Int32), .int (yw x4)]) rfl ?_
      refine xZ.eqs (lv2 := [(0, .ref v0)]) (st2 := [.int (yw 1), .int (yw x4)]) rfl (by simp only [yl_lit, yL_lit, yw_add, yw_sub, yw_mul, yw_neg, yl_add, yl_sub, yl_mul, cj_and, cj_or, cj_xor, cj_shl, cj_shr, cj_ushr, cj_div, cj_i2c, cj_i2b, cj_dc, ck_and, ck_or, ck_xor, ck_shl, ck_shr, ck_ushr, ck_i2l, ck_l2i, ck_cmp]) ?_
      refine xZ.jc_ne (me := xm67) hP_67 rfl (fun h3 => ?_) (fun h3 => ?_)
      · skip
        refine xZ.adv (me := xm67) hP_67 3 (pc' := 42) (lv' := [(0, .ref v0)]) (st' := [.int (99 : Int32), .int (1 : Int32), .ref v0]) rfl ?_
        refine xZ.eqs (lv2 := [(0, .ref v0)]) (st2 := [.int (yw 99), .int (yw 1), .ref v0]) rfl (by simp only [yl_lit, yL_lit, yw_add, yw_sub, yw_mul, yw_neg, yl_add, yl_sub, yl_mul, cj_and, cj_or, cj_xor, cj_shl, cj_shr, cj_ushr, cj_div, cj_i2c, cj_i2b, cj_dc, ck_and, ck_or, ck_xor, ck_shl, ck_shr, ck_ushr, ck_i2l, ck_l2i, ck_cmp]) ?_
        refine xZ.callv (κ := oJ) (av := [.int (yw 1), .int (yw 99)]) (rest := []) (st' := fun x5 => [.int (yw x5)]) (k0 := v0) (me := xm67) hP_67 rfl (Or.inl rfl) ⟨rfl, by decide⟩ rfl rfl (Nat.le_of_ble_eq_true rfl) (by decide) hP_70 (Nat.le_of_ble_eq_true rfl) (fun _ => rfl) (k_f_Reader_isNumber O f (d + 7) v0 1 99 M3) (fun x5 M4 => ?_)
        refine xZ.jf_ne (me := xm67) hP_67 rfl (fun h4 => ?_) (fun h4 => ?_)
        · skip
          refine xZ.adv (me := xm67) hP_67 1 (pc' := 49) (lv' := [(0, .ref v0)]) (st' := [.int (0 : Int32)]) rfl ?_
          refine xZ.eqs (lv2 := [(0, .ref v0)]) (st2 := [.int (yw 0)]) rfl (by simp only [yl_lit, yL_lit, yw_add, yw_sub, yw_mul, yw_neg, yl_add, yl_sub, yl_mul, cj_and, cj_or, cj_xor, cj_shl, cj_shr, cj_ushr, cj_div, cj_i2c, cj_i2b, cj_dc, ck_and, ck_or, ck_xor, ck_shl, ck_shr, ck_ushr, ck_i2l, ck_l2i, ck_cmp]) ?_
          exact xZ.jrete (me := xm67) hP_67 rfl rfl rfl
        · skip
          refine xZ.adv (me := xm67) hP_67 1 (pc' := 51) (lv' := [(0, .ref v0)]) (st' := [.ref v0]) rfl ?_
          refine xZ.k_gR (me := xm67) hP_67 rfl (fun x6 => ?_)
          refine xZ.adv (me := xm67) hP_67 1 (pc' := 55) (lv' := [(0, .ref v0)]) (st' := [.ref v0, .ref x6]) rfl ?_
          refine xZ.k_gJ (me := xm67) hP_67 rfl (fun x7 => ?_)
          refine xZ.k_pJ (me := xm67) hP_67 rfl (fun M5 => ?_)
          refine xZ.adv (me := xm67) hP_67 1 (pc' := 62) (lv' := [(0, .ref v0)]) (st' := [.ref v0]) rfl ?_
          refine xZ.callv (κ := oU) (av := []) (rest := []) (st' := fun _ => []) (k0 := v0) (me := xm67) hP_67 rfl (Or.inl rfl) ⟨rfl, by decide⟩ rfl rfl (Nat.le_of_ble_eq_true rfl) (by decide) hP_65 (Nat.le_of_ble_eq_true rfl) (fun _ => rfl) (k_f_Reader_goOn O f (d + 6) v0 M5) (fun _ M6 => ?_)
          exact (k_f_Reader_parseKind_65 O f d v0 M6)
      · skip
        exact (k_f_Reader_parseKind_65 O f d v0 M3)
  · skip
    refine xZ.adv (me := xm67) hP_67 1 (pc' := 10) (lv' := [(0, .ref v0)]) (st' := [.int (1 : Int32)]) rfl ?_
    refine xZ.eqs (lv2 := [(0, .ref v0)]) (st2 := [.int (yw 1)]) rfl (by simp only [yl_lit, yL_lit, yw_add, yw_sub, yw_mul, yw_neg, yl_add, yl_sub, yl_mul, cj_and, cj_or, cj_xor, cj_shl, cj_shr, cj_ushr, cj_div, cj_i2c, cj_i2b, cj_dc, ck_and, ck_or, ck_xor, ck_shl, ck_shr, ck_ushr, ck_i2l, ck_l2i, ck_cmp]) ?_
    exact xZ.jrete (me := xm67) hP_67 rfl rfl rfl
def f_Reader_parseEndNumber (O : Nat → Option va_E) (f : Nat) (v0 : Nat) (v1 : Int) (v2 : Int) (v3 : Int) (M : xM) : Option (Int × xM) :=
  (isO O M v0 8).bind fun _ =>
  xcl (f_Reader_isNumber O f v0 v2 v3 M) fun x1 M1 =>
  if yw x1 = yw 0 then (
    some (0, M1)
  ) else
  (gR O M1 v0 8 1).bind fun x2 =>
  (gJ O M1 v0 8 6).bind fun x3 =>
  (isO O M1 x2 9).bind fun _ =>
  xcl (f_Rule_putEnd O f x2 v1 x3 M1) fun _ M2 =>
  (isO O M2 v0 8).bind fun _ =>
  xcl (f_Reader_goOn O f v0 M2) fun _ M3 =>
  some (1, M3)
set_option maxRecDepth 20000 in
theorem k_f_Reader_parseEndNumber (O : Nat → Option va_E) (f d : Nat) (v0 : Nat) (v1 : Int) (v2 : Int) (v3 : Int) (M : xM) : xZ oJ O (d + 2) 77 0 [(0, .ref v0), (1, .int (yw v1)), (2, .int (yw v2)), (3, .int (yw v3))] [] M (f_Reader_parseEndNumber O f v0 v1 v2 v3 M) := by
  unfold f_Reader_parseEndNumber
  refine xZ.adv (me := xm77) hP_77 3 (pc' := 3) (lv' := [(0, .ref v0), (1, .int (yw v1)), (2, .int (yw v2)), (3, .int (yw v3))]) (st' := [.int (yw v3), .int (yw v2), .ref v0]) rfl ?_
  refine xZ.callv (κ := oJ) (av := [.int (yw v2), .int (yw v3)]) (rest := []) (st' := fun x1 => [.int (yw x1)]) (k0 := v0) (me := xm77) hP_77 rfl (Or.inl rfl) ⟨rfl, by decide⟩ rfl rfl (Nat.le_of_ble_eq_true rfl) (by decide) hP_70 (Nat.le_of_ble_eq_true rfl) (fun _ => rfl) (k_f_Reader_isNumber O f (d + 1) v0 v2 v3 M) (fun x1 M1 => ?_)
  refine xZ.jf_ne (me := xm77) hP_77 rfl (fun h1 => ?_) (fun h1 => ?_)
  · skip
    refine xZ.adv (me := xm77) hP_77 1 (pc' := 10) (lv' := [(0, .ref v0), (1, .int (yw v1)), (2, .int (yw v2)), (3, .int (yw v3))]) (st' := [.int (0 : Int32)]) rfl ?_
    refine xZ.eqs (lv2 := [(0, .ref v0), (1, .int (yw v1)), (2, .int (yw v2)), (3, .int (yw v3))]) (st2 := [.int (yw 0)]) rfl (by simp only [yl_lit, yL_lit, yw_add, yw_sub, yw_mul, yw_neg, yl_add, yl_sub, yl_mul, cj_and, cj_or, cj_xor, cj_shl, cj_shr, cj_ushr, cj_div, cj_i2c, cj_i2b, cj_dc, ck_and, ck_or, ck_xor, ck_shl, ck_shr, ck_ushr, ck_i2l, ck_l2i, ck_cmp]) ?_
    exact xZ.jrete (me := xm77) hP_77 rfl rfl rfl
  · skip
    refine xZ.adv (me := xm77) hP_77 1 (pc' := 12) (lv' := [(0, .ref v0), (1, .int (yw v1)), (2, .int (yw v2)), (3, .int (yw v3))]) (st' := [.ref v0]) rfl ?_
    refine xZ.k_gR (me := xm77) hP_77 rfl (fun x2 => ?_)
    refine xZ.adv (me := xm77) hP_77 2 (pc' := 17) (lv' := [(0, .ref v0), (1, .int (yw v1)), (2, .int (yw v2)), (3, .int (yw v3))]) (st' := [.ref v0, .int (yw v1), .ref x2]) rfl ?_
    refine xZ.k_gJ (me := xm77) hP_77 rfl (fun x3 => ?_)
    refine xZ.callv (κ := oU) (av := [.int (yw v1), .int (yw x3)]) (rest := []) (st' := fun _ => []) (k0 := x2) (me := xm77) hP_77 rfl (Or.inl rfl) ⟨rfl, by decide⟩ rfl rfl (Nat.le_of_ble_eq_true rfl) (by decide) hP_33 (Nat.le_of_ble_eq_true rfl) (fun _ => rfl) (k_f_Rule_putEnd O f (d + 1) x2 v1 x3 M1) (fun _ M2 => ?_)
    refine xZ.adv (me := xm77) hP_77 1 (pc' := 24) (lv' := [(0, .ref v0), (1, .int (yw v1)), (2, .int (yw v2)), (3, .int (yw v3))]) (st' := [.ref v0]) rfl ?_
    refine xZ.callv (κ := oU) (av := []) (rest := []) (st' := fun _ => []) (k0 := v0) (me := xm77) hP_77 rfl (Or.inl rfl) ⟨rfl, by decide⟩ rfl rfl (Nat.le_of_ble_eq_true rfl) (by decide) hP_65 (Nat.le_of_ble_eq_true rfl) (fun _ => rfl) (k_f_Reader_goOn O f (d + 0) v0 M2) (fun _ M3 => ?_)
    refine xZ.adv (me := xm77) hP_77 1 (pc' := 28) (lv' := [(0, .ref v0), (1, .int (yw v1)), (2, .int (yw v2)), (3, .int (yw v3))]) (st' := [.int (1 : Int32)]) rfl ?_
    refine xZ.eqs (lv2 := [(0, .ref v0), (1, .int (yw v1)), (2, .int (yw v2)), (3, .int (yw v3))]) (st2 := [.int (yw 1)]) rfl (by simp only [yl_lit, yL_lit, yw_add, yw_sub, yw_mul, yw_neg, yl_add, yl_sub, yl_mul, cj_and, cj_or, cj_xor, cj_shl, cj_shr, cj_ushr, cj_div, cj_i2c, cj_i2b, cj_dc, ck_and, ck_or, ck_xor, ck_shl, ck_shr, ck_ushr, ck_i2l, ck_l2i, ck_cmp]) ?_
    exact xZ.jrete (me := xm77) hP_77 rfl rfl rfl
def f_Reader_parseEnd (O : Nat → Option va_E) (f : Nat) (v0 : Nat) (v1 : Int) (M : xM) : Option (Int × xM) :=
  (gJ O M v0 8 5).bind fun x1 =>
  if yw x1 = yw 3 then (
    some (1, M)
  ) else
  (isO O M v0 8).bind fun _ =>
  xcl (f_Reader_takes O f v0 1000000068 M) fun x2 M1 =>
  if yw x2 = yw 0 then (
    (isO O M1 v0 8).bind fun _ =>
    xcl (f_Reader_takes O f v0 1000000070 M1) fun x3 M2 =>
    if yw x3 = yw 0 then (
      some (0, M2)
    ) else
    (isO O M2 v0 8).bind fun _ =>
    xcl (f_Reader_parseEndNumber O f v0 2 v1 146000 M2) fun x4 M3 =>
    if yw x4 = yw 0 then (
      some (0, M3)
    ) else
    some (1, M3)
  ) else
  (isO O M1 v0 8).bind fun _ =>
  xcl (f_Reader_parseEndNumber O f v0 1 1 500 M1) fun x5 M4 =>
  if xfit .boolean (.int (yw x5)) = true then some (x5, M4) else none
set_option maxRecDepth 20000 in
theorem k_f_Reader_parseEnd (O : Nat → Option va_E) (f d : Nat) (v0 : Nat) (v1 : Int) (M : xM) : xZ oJ O (d + 6) 76 0 [(0, .ref v0), (1, .int (yw v1))] [] M (f_Reader_parseEnd O f v0 v1 M) := by
  unfold f_Reader_parseEnd
  refine xZ.adv (me := xm76) hP_76 1 (pc' := 1) (lv' := [(0, .ref v0), (1, .int (yw v1))]) (st' := [.ref v0]) rfl ?_
  refine xZ.k_gJ (me := xm76) hP_76 rfl (fun x1 => ?_)
  refine xZ.adv (me := xm76) hP_76 1 (pc' := 5) (lv' := [(0, .ref v0), (1, .int (yw v1))]) (st' := [.int (3 : Int32), .int (yw x1)]) rfl ?_
  refine xZ.eqs (lv2 := [(0, .ref v0), (1, .int (yw v1))]) (st2 := [.int (yw 3), .int (yw x1)]) rfl (by simp only [yl_lit, yL_lit, yw_add, yw_sub, yw_mul, yw_neg, yl_add, yl_sub, yl_mul, cj_and, cj_or, cj_xor, cj_shl, cj_shr, cj_ushr, cj_div, cj_i2c, cj_i2b, cj_dc, ck_and, ck_or, ck_xor, ck_shl, ck_shr, ck_ushr, ck_i2l, ck_l2i, ck_cmp]) ?_
  refine xZ.jc_ne (me := xm76) hP_76 rfl (fun h1 => ?_) (fun h1 => ?_)
  · skip
    refine xZ.adv (me := xm76) hP_76 1 (pc' := 9) (lv' := [(0, .ref v0), (1, .int (yw v1))]) (st' := [.int (1 : Int32)]) rfl ?_
    refine xZ.eqs (lv2 := [(0, .ref v0), (1, .int (yw v1))]) (st2 := [.int (yw 1)]) rfl (by simp only [yl_lit, yL_lit, yw_add, yw_sub, yw_mul, yw_neg, yl_add, yl_sub, yl_mul, cj_and, cj_or, cj_xor, cj_shl, cj_shr, cj_ushr, cj_div, cj_i2c, cj_i2b, cj_dc, ck_and, ck_or, ck_xor, ck_shl, ck_shr, ck_ushr, ck_i2l, ck_l2i, ck_cmp]) ?_
    exact xZ.jrete (me := xm76) hP_76 rfl rfl rfl
  · skip
    refine xZ.adv (me := xm76) hP_76 2 (pc' := 13) (lv' := [(0, .ref v0), (1, .int (yw v1))]) (st' := [.ref 1000000068, .ref v0]) rfl ?_
    refine xZ.callv (κ := oJ) (av := [.ref 1000000068]) (rest := []) (st' := fun x2 => [.int (yw x2)]) (k0 := v0) (me := xm76) hP_76 rfl (Or.inl rfl) ⟨rfl, by decide⟩ rfl rfl (Nat.le_of_ble_eq_true rfl) (by decide) hP_68 (Nat.le_of_ble_eq_true rfl) (fun _ => rfl) (k_f_Reader_takes O f (d + 0) v0 1000000068 M) (fun x2 M1 => ?_)
    refine xZ.jf_eq (me := xm76) hP_76 rfl (fun h2 => ?_) (fun h2 => ?_)
    · skip
      refine xZ.adv (me := xm76) hP_76 2 (pc' := 32) (lv' := [(0, .ref v0), (1, .int (yw v1))]) (st' := [.ref 1000000070, .ref v0]) rfl ?_
      refine xZ.callv (κ := oJ) (av := [.ref 1000000070]) (rest := []) (st' := fun x3 => [.int (yw x3)]) (k0 := v0) (me := xm76) hP_76 rfl (Or.inl rfl) ⟨rfl, by decide⟩ rfl rfl (Nat.le_of_ble_eq_true rfl) (by decide) hP_68 (Nat.le_of_ble_eq_true rfl) (fun _ => rfl) (k_f_Reader_takes O f (d + 0) v0 1000000070 M1) (fun x3 M2 => ?_)
      refine xZ.jf_eq (me := xm76) hP_76 rfl (fun h3 => ?_) (fun h3 => ?_)
      · skip
        refine xZ.adv (me := xm76) hP_76 1 (pc' := 54) (lv' := [(0, .ref v0), (1, .int (yw v1))]) (st' := [.int (0 : Int32)]) rfl ?_
        refine xZ.eqs (lv2 := [(0, .ref v0), (1, .int (yw v1))]) (st2 := [.int (yw 0)]) rfl (by simp only [yl_lit, yL_lit, yw_add, yw_sub, yw_mul, yw_neg, yl_add, yl_sub, yl_mul, cj_and, cj_or, cj_xor, cj_shl, cj_shr, cj_ushr, cj_div, cj_i2c, cj_i2b, cj_dc, ck_and, ck_or, ck_xor, ck_shl, ck_shr, ck_ushr, ck_i2l, ck_l2i, ck_cmp]) ?_
        exact xZ.jrete (me := xm76) hP_76 rfl rfl rfl
      · skip
        refine xZ.adv (me := xm76) hP_76 4 (pc' := 43) (lv' := [(0, .ref v0), (1, .int (yw v1))]) (st' := [.int (146000 : Int32), .int (yw v1), .int (2 : Int32), .ref v0]) rfl ?_
        refine xZ.eqs (lv2 := [(0, .ref v0), (1, .int (yw v1))]) (st2 := [.int (yw 146000), .int (yw v1), .int (yw 2), .ref v0]) rfl (by simp only [yl_lit, yL_lit, yw_add, yw_sub, yw_mul, yw_neg, yl_add, yl_sub, yl_mul, cj_and, cj_or, cj_xor, cj_shl, cj_shr, cj_ushr, cj_div, cj_i2c, cj_i2b, cj_dc, ck_and, ck_or, ck_xor, ck_shl, ck_shr, ck_ushr, ck_i2l, ck_l2i, ck_cmp]) ?_
        refine xZ.callv (κ := oJ) (av := [.int (yw 2), .int (yw v1), .int (yw 146000)]) (rest := []) (st' := fun x4 => [.int (yw x4)]) (k0 := v0) (me := xm76) hP_76 rfl (Or.inl rfl) ⟨rfl, by decide⟩ rfl rfl (Nat.le_of_ble_eq_true rfl) (by decide) hP_77 (Nat.le_of_ble_eq_true rfl) (fun _ => rfl) (k_f_Reader_parseEndNumber O f (d + 3) v0 2 v1 146000 M2) (fun x4 M3 => ?_)
        refine xZ.jf_eq (me := xm76) hP_76 rfl (fun h4 => ?_) (fun h4 => ?_)
        · skip
          refine xZ.adv (me := xm76) hP_76 1 (pc' := 54) (lv' := [(0, .ref v0), (1, .int (yw v1))]) (st' := [.int (0 : Int32)]) rfl ?_
          refine xZ.eqs (lv2 := [(0, .ref v0), (1, .int (yw v1))]) (st2 := [.int (yw 0)]) rfl (by simp only [yl_lit, yL_lit, yw_add, yw_sub, yw_mul, yw_neg, yl_add, yl_sub, yl_mul, cj_and, cj_or, cj_xor, cj_shl, cj_shr, cj_ushr, cj_div, cj_i2c, cj_i2b, cj_dc, ck_and, ck_or, ck_xor, ck_shl, ck_shr, ck_ushr, ck_i2l, ck_l2i, ck_cmp]) ?_
          exact xZ.jrete (me := xm76) hP_76 rfl rfl rfl
        · skip
          refine xZ.adv (me := xm76) hP_76 2 (pc' := 54) (lv' := [(0, .ref v0), (1, .int (yw v1))]) (st' := [.int (1 : Int32)]) rfl ?_
          refine xZ.eqs (lv2 := [(0, .ref v0), (1, .int (yw v1))]) (st2 := [.int (yw 1)]) rfl (by simp only [yl_lit, yL_lit, yw_add, yw_sub, yw_mul, yw_neg, yl_add, yl_sub, yl_mul, cj_and, cj_or, cj_xor, cj_shl, cj_shr, cj_ushr, cj_div, cj_i2c, cj_i2b, cj_dc, ck_and, ck_or, ck_xor, ck_shl, ck_shr, ck_ushr, ck_i2l, ck_l2i, ck_cmp]) ?_
          exact xZ.jrete (me := xm76) hP_76 rfl rfl rfl
    · skip
      refine xZ.adv (me := xm76) hP_76 4 (pc' := 25) (lv' := [(0, .ref v0), (1, .int (yw v1))]) (st' := [.int (500 : Int32), .int (1 : Int32), .int (1 : Int32), .ref v0]) rfl ?_
      refine xZ.eqs (lv2 := [(0, .ref v0), (1, .int (yw v1))]) (st2 := [.int (yw 500), .int (yw 1), .int (yw 1), .ref v0]) rfl (by simp only [yl_lit, yL_lit, yw_add, yw_sub, yw_mul, yw_neg, yl_add, yl_sub, yl_mul, cj_and, cj_or, cj_xor, cj_shl, cj_shr, cj_ushr, cj_div, cj_i2c, cj_i2b, cj_dc, ck_and, ck_or, ck_xor, ck_shl, ck_shr, ck_ushr, ck_i2l, ck_l2i, ck_cmp]) ?_
      refine xZ.callv (κ := oJ) (av := [.int (yw 1), .int (yw 1), .int (yw 500)]) (rest := []) (st' := fun x5 => [.int (yw x5)]) (k0 := v0) (me := xm76) hP_76 rfl (Or.inl rfl) ⟨rfl, by decide⟩ rfl rfl (Nat.le_of_ble_eq_true rfl) (by decide) hP_77 (Nat.le_of_ble_eq_true rfl) (fun _ => rfl) (k_f_Reader_parseEndNumber O f (d + 3) v0 1 1 500 M1) (fun x5 M4 => ?_)
      exact xZ.jretf (me := xm76) hP_76 rfl rfl
def f_Reader_parse_56 (O : Nat → Option va_E) (f : Nat) (v0 : Nat) (M : xM) : Option (Int × xM) :=
  (gJ O M v0 8 3).bind fun x1 =>
  some (x1, M)
set_option maxRecDepth 20000 in
theorem k_f_Reader_parse_56 (O : Nat → Option va_E) (f d : Nat) (v0 : Nat) (M : xM) : xZ oJ O (d + 9) 64 56 [(0, .ref v0)] [] M (f_Reader_parse_56 O f v0 M) := by
  unfold f_Reader_parse_56
  refine xZ.adv (me := xm64) hP_64 1 (pc' := 57) (lv' := [(0, .ref v0)]) (st' := [.ref v0]) rfl ?_
  refine xZ.k_gJ (me := xm64) hP_64 rfl (fun x1 => ?_)
  exact xZ.jreti (me := xm64) hP_64 rfl rfl
def f_Reader_parse (O : Nat → Option va_E) (f : Nat) (v0 : Nat) (v1 : Int) (M : xM) : Option (Int × xM) :=
  (pJ M v0 8 4 0).bind fun M1 =>
  (gR O M1 v0 8 1).bind fun x1 =>
  (isO O M1 x1 9).bind fun _ =>
  xcl (f_Rule_put O f x1 0 0 0 0 M1) fun _ M2 =>
  (gR O M2 v0 8 1).bind fun x3 =>
  (isO O M2 x3 9).bind fun _ =>
  xcl (f_Rule_putEnd O f x3 0 0 M2) fun _ M3 =>
  (isO O M3 v0 8).bind fun _ =>
  xcl (f_Reader_goOn O f v0 M3) fun _ M4 =>
  (isO O M4 v0 8).bind fun _ =>
  xcl (f_Reader_parseKind O f v0 M4) fun x6 M5 =>
  if yw x6 = yw 0 then (
    f_Reader_parse_56 O f v0 M5
  ) else
  (isO O M5 v0 8).bind fun _ =>
  xcl (f_Reader_parseEnd O f v0 v1 M5) fun x7 M6 =>
  if yw x7 = yw 0 then (
    f_Reader_parse_56 O f v0 M6
  ) else
  (gJ O M6 v0 8 5).bind fun x8 =>
  if yw x8 = yw 3 then (
    some ((-1), M6)
  ) else
  f_Reader_parse_56 O f v0 M6
set_option maxRecDepth 20000 in
theorem k_f_Reader_parse (O : Nat → Option va_E) (f d : Nat) (v0 : Nat) (v1 : Int) (M : xM) : xZ oJ O (d + 9) 64 0 [(0, .ref v0), (1, .int (yw v1))] [] M (f_Reader_parse O f v0 v1 M) := by
  unfold f_Reader_parse
  refine xZ.adv (me := xm64) hP_64 2 (pc' := 2) (lv' := [(0, .ref v0), (1, .int (yw v1))]) (st' := [.int (0 : Int32), .ref v0]) rfl ?_
  refine xZ.eqs (lv2 := [(0, .ref v0), (1, .int (yw v1))]) (st2 := [.int (yw 0), .ref v0]) rfl (by simp only [yl_lit, yL_lit, yw_add, yw_sub, yw_mul, yw_neg, yl_add, yl_sub, yl_mul, cj_and, cj_or, cj_xor, cj_shl, cj_shr, cj_ushr, cj_div, cj_i2c, cj_i2b, cj_dc, ck_and, ck_or, ck_xor, ck_shl, ck_shr, ck_ushr, ck_i2l, ck_l2i, ck_cmp]) ?_
  refine xZ.k_pJ (me := xm64) hP_64 rfl (fun M1 => ?_)
  refine xZ.adv (me := xm64) hP_64 1 (pc' := 6) (lv' := [(0, .ref v0), (1, .int (yw v1))]) (st' := [.ref v0]) rfl ?_
  refine xZ.k_gR (me := xm64) hP_64 rfl (fun x1 => ?_)
  refine xZ.adv (me := xm64) hP_64 4 (pc' := 13) (lv' := [(0, .ref v0), (1, .int (yw v1))]) (st' := [.int (0 : Int32), .int (0 : Int32), .int (0 : Int32), .int (0 : Int32), .ref x1]) rfl ?_
  refine xZ.eqs (lv2 := [(0, .ref v0), (1, .int (yw v1))]) (st2 := [.int (yw 0), .int (yw 0), .int (yw 0), .int (yw 0), .ref x1]) rfl (by simp only [yl_lit, yL_lit, yw_add, yw_sub, yw_mul, yw_neg, yl_add, yl_sub, yl_mul, cj_and, cj_or, cj_xor, cj_shl, cj_shr, cj_ushr, cj_div, cj_i2c, cj_i2b, cj_dc, ck_and, ck_or, ck_xor, ck_shl, ck_shr, ck_ushr, ck_i2l, ck_l2i, ck_cmp]) ?_
  refine xZ.callv (κ := oU) (av := [.int (yw 0), .int (yw 0), .int (yw 0), .int (yw 0)]) (rest := []) (st' := fun _ => []) (k0 := x1) (me := xm64) hP_64 rfl (Or.inl rfl) ⟨rfl, by decide⟩ rfl rfl (Nat.le_of_ble_eq_true rfl) (by decide) hP_32 (Nat.le_of_ble_eq_true rfl) (fun _ => rfl) (k_f_Rule_put O f (d + 8) x1 0 0 0 0 M1) (fun _ M2 => ?_)
  refine xZ.adv (me := xm64) hP_64 1 (pc' := 17) (lv' := [(0, .ref v0), (1, .int (yw v1))]) (st' := [.ref v0]) rfl ?_
  refine xZ.k_gR (me := xm64) hP_64 rfl (fun x3 => ?_)
  refine xZ.adv (me := xm64) hP_64 2 (pc' := 22) (lv' := [(0, .ref v0), (1, .int (yw v1))]) (st' := [.int (0 : Int32), .int (0 : Int32), .ref x3]) rfl ?_
  refine xZ.eqs (lv2 := [(0, .ref v0), (1, .int (yw v1))]) (st2 := [.int (yw 0), .int (yw 0), .ref x3]) rfl (by simp only [yl_lit, yL_lit, yw_add, yw_sub, yw_mul, yw_neg, yl_add, yl_sub, yl_mul, cj_and, cj_or, cj_xor, cj_shl, cj_shr, cj_ushr, cj_div, cj_i2c, cj_i2b, cj_dc, ck_and, ck_or, ck_xor, ck_shl, ck_shr, ck_ushr, ck_i2l, ck_l2i, ck_cmp]) ?_
  refine xZ.callv (κ := oU) (av := [.int (yw 0), .int (yw 0)]) (rest := []) (st' := fun _ => []) (k0 := x3) (me := xm64) hP_64 rfl (Or.inl rfl) ⟨rfl, by decide⟩ rfl rfl (Nat.le_of_ble_eq_true rfl) (by decide) hP_33 (Nat.le_of_ble_eq_true rfl) (fun _ => rfl) (k_f_Rule_putEnd O f (d + 8) x3 0 0 M2) (fun _ M3 => ?_)
  refine xZ.adv (me := xm64) hP_64 1 (pc' := 26) (lv' := [(0, .ref v0), (1, .int (yw v1))]) (st' := [.ref v0]) rfl ?_
  refine xZ.callv (κ := oU) (av := []) (rest := []) (st' := fun _ => []) (k0 := v0) (me := xm64) hP_64 rfl (Or.inl rfl) ⟨rfl, by decide⟩ rfl rfl (Nat.le_of_ble_eq_true rfl) (by decide) hP_65 (Nat.le_of_ble_eq_true rfl) (fun _ => rfl) (k_f_Reader_goOn O f (d + 7) v0 M3) (fun _ M4 => ?_)
  refine xZ.adv (me := xm64) hP_64 1 (pc' := 30) (lv' := [(0, .ref v0), (1, .int (yw v1))]) (st' := [.ref v0]) rfl ?_
  refine xZ.callv (κ := oJ) (av := []) (rest := []) (st' := fun x6 => [.int (yw x6)]) (k0 := v0) (me := xm64) hP_64 rfl (Or.inl rfl) ⟨rfl, by decide⟩ rfl rfl (Nat.le_of_ble_eq_true rfl) (by decide) hP_67 (Nat.le_of_ble_eq_true rfl) (fun _ => rfl) (k_f_Reader_parseKind O f (d + 0) v0 M4) (fun x6 M5 => ?_)
  refine xZ.jf_eq (me := xm64) hP_64 rfl (fun h1 => ?_) (fun h1 => ?_)
  · skip
    exact xZ.sub (xsc (.head _) xsn) (show ([0, 1] : List Nat).Nodup from by decide) (k_f_Reader_parse_56 O f d v0 M5)
  · skip
    refine xZ.adv (me := xm64) hP_64 2 (pc' := 38) (lv' := [(0, .ref v0), (1, .int (yw v1))]) (st' := [.int (yw v1), .ref v0]) rfl ?_
    refine xZ.callv (κ := oJ) (av := [.int (yw v1)]) (rest := []) (st' := fun x7 => [.int (yw x7)]) (k0 := v0) (me := xm64) hP_64 rfl (Or.inl rfl) ⟨rfl, by decide⟩ rfl rfl (Nat.le_of_ble_eq_true rfl) (by decide) hP_76 (Nat.le_of_ble_eq_true rfl) (fun _ => rfl) (k_f_Reader_parseEnd O f (d + 2) v0 v1 M5) (fun x7 M6 => ?_)
    refine xZ.jf_eq (me := xm64) hP_64 rfl (fun h2 => ?_) (fun h2 => ?_)
    · skip
      exact xZ.sub (xsc (.head _) xsn) (show ([0, 1] : List Nat).Nodup from by decide) (k_f_Reader_parse_56 O f d v0 M6)
    · skip
      refine xZ.adv (me := xm64) hP_64 1 (pc' := 45) (lv' := [(0, .ref v0), (1, .int (yw v1))]) (st' := [.ref v0]) rfl ?_
      refine xZ.k_gJ (me := xm64) hP_64 rfl (fun x8 => ?_)
      refine xZ.adv (me := xm64) hP_64 1 (pc' := 49) (lv' := [(0, .ref v0), (1, .int (yw v1))]) (st' := [.int (3 : Int32), .int (yw x8)]) rfl ?_
      refine xZ.eqs (lv2 := [(0, .ref v0), (1, .int (yw v1))]) (st2 := [.int (yw 3), .int (yw x8)]) rfl (by simp only [yl_lit, yL_lit, yw_add, yw_sub, yw_mul, yw_neg, yl_add, yl_sub, yl_mul, cj_and, cj_or, cj_xor, cj_shl, cj_shr, cj_ushr, cj_div, cj_i2c, cj_i2b, cj_dc, ck_and, ck_or, ck_xor, ck_shl, ck_shr, ck_ushr, ck_i2l, ck_l2i, ck_cmp]) ?_
      refine xZ.jc_ne (me := xm64) hP_64 rfl (fun h3 => ?_) (fun h3 => ?_)
      · skip
        refine xZ.adv (me := xm64) hP_64 2 (pc' := 60) (lv' := [(0, .ref v0), (1, .int (yw v1))]) (st' := [.int (-1 : Int32)]) rfl ?_
        refine xZ.eqs (lv2 := [(0, .ref v0), (1, .int (yw v1))]) (st2 := [.int (yw (-1))]) rfl (by simp only [yl_lit, yL_lit, yw_add, yw_sub, yw_mul, yw_neg, yl_add, yl_sub, yl_mul, cj_and, cj_or, cj_xor, cj_shl, cj_shr, cj_ushr, cj_div, cj_i2c, cj_i2b, cj_dc, ck_and, ck_or, ck_xor, ck_shl, ck_shr, ck_ushr, ck_i2l, ck_l2i, ck_cmp]) ?_
        exact xZ.jreti (me := xm64) hP_64 rfl rfl
      · skip
        exact xZ.sub (xsc (.head _) xsn) (show ([0, 1] : List Nat).Nodup from by decide) (k_f_Reader_parse_56 O f d v0 M6)
def f_Calendarhall_errorPlace (O : Nat → Option va_E) (f : Nat) (v0 : Nat) (M : xM) : Option (Int × xM) :=
  (gR O M v0 12 7).bind fun x1 =>
  (isO O M x1 8).bind fun _ =>
  xcl (f_Reader_parse O f x1 10 M) fun x2 M1 =>
  some (x2, M1)
set_option maxRecDepth 20000 in
theorem k_f_Calendarhall_errorPlace (O : Nat → Option va_E) (f d : Nat) (v0 : Nat) (M : xM) : xZ oJ O (d + 10) 63 0 [(0, .ref v0)] [] M (f_Calendarhall_errorPlace O f v0 M) := by
  unfold f_Calendarhall_errorPlace
  refine xZ.adv (me := xm63) hP_63 1 (pc' := 1) (lv' := [(0, .ref v0)]) (st' := [.ref v0]) rfl ?_
  refine xZ.k_gR (me := xm63) hP_63 rfl (fun x1 => ?_)
  refine xZ.adv (me := xm63) hP_63 1 (pc' := 6) (lv' := [(0, .ref v0)]) (st' := [.int (10 : Int32), .ref x1]) rfl ?_
  refine xZ.eqs (lv2 := [(0, .ref v0)]) (st2 := [.int (yw 10), .ref x1]) rfl (by simp only [yl_lit, yL_lit, yw_add, yw_sub, yw_mul, yw_neg, yl_add, yl_sub, yl_mul, cj_and, cj_or, cj_xor, cj_shl, cj_shr, cj_ushr, cj_div, cj_i2c, cj_i2b, cj_dc, ck_and, ck_or, ck_xor, ck_shl, ck_shr, ck_ushr, ck_i2l, ck_l2i, ck_cmp]) ?_
  refine xZ.callv (κ := oJ) (av := [.int (yw 10)]) (rest := []) (st' := fun x2 => [.int (yw x2)]) (k0 := x1) (me := xm63) hP_63 rfl (Or.inl rfl) ⟨rfl, by decide⟩ rfl rfl (Nat.le_of_ble_eq_true rfl) (by decide) hP_64 (Nat.le_of_ble_eq_true rfl) (fun _ => rfl) (k_f_Reader_parse O f (d + 0) x1 10 M) (fun x2 M1 => ?_)
  exact xZ.jreti (me := xm63) hP_63 rfl rfl
def f_Calendarhall_seriesNumbered (O : Nat → Option va_E) (f : Nat) (v0 : Nat) (v1 : Int) (M : xM) : Option (Nat × xM) :=
  if yw v1 < yw 0 then (
    none
  ) else
  if yw 12 ≤ yw v1 then (
    none
  ) else
  (gR O M v0 12 0).bind fun x1 =>
  (isO O M x1 4).bind fun _ =>
  xcl (f_Hall_anySeries O f x1 v1 M) fun x2 M1 =>
  (gJ O M1 x2 10 0).bind fun x3 =>
  if yw x3 = yw 0 then (
    none
  ) else
  (gR O M1 v0 12 0).bind fun x4 =>
  (isO O M1 x4 4).bind fun _ =>
  xcl (f_Hall_anySeries O f x4 v1 M1) fun x5 M2 =>
  some (x5, M2)
set_option maxRecDepth 20000 in
theorem k_f_Calendarhall_seriesNumbered (O : Nat → Option va_E) (f d : Nat) (v0 : Nat) (v1 : Int) (M : xM) : xZ oR O (d + 1) 79 0 [(0, .ref v0), (1, .int (yw v1))] [] M (f_Calendarhall_seriesNumbered O f v0 v1 M) := by
  unfold f_Calendarhall_seriesNumbered
  refine xZ.adv (me := xm79) hP_79 1 (pc' := 1) (lv' := [(0, .ref v0), (1, .int (yw v1))]) (st' := [.int (yw v1)]) rfl ?_
  refine xZ.jf_lt (me := xm79) hP_79 rfl (fun h1 => ?_) (fun h1 => ?_)
  · skip
    exact xZ.no
  · skip
    refine xZ.adv (me := xm79) hP_79 2 (pc' := 7) (lv' := [(0, .ref v0), (1, .int (yw v1))]) (st' := [.int (12 : Int32), .int (yw v1)]) rfl ?_
    refine xZ.eqs (lv2 := [(0, .ref v0), (1, .int (yw v1))]) (st2 := [.int (yw 12), .int (yw v1)]) rfl (by simp only [yl_lit, yL_lit, yw_add, yw_sub, yw_mul, yw_neg, yl_add, yl_sub, yl_mul, cj_and, cj_or, cj_xor, cj_shl, cj_shr, cj_ushr, cj_div, cj_i2c, cj_i2b, cj_dc, ck_and, ck_or, ck_xor, ck_shl, ck_shr, ck_ushr, ck_i2l, ck_l2i, ck_cmp]) ?_
    refine xZ.jc_ge (me := xm79) hP_79 rfl (fun h2 => ?_) (fun h2 => ?_)
    · skip
      exact xZ.no
    · skip
      refine xZ.adv (me := xm79) hP_79 1 (pc' := 11) (lv' := [(0, .ref v0), (1, .int (yw v1))]) (st' := [.ref v0]) rfl ?_
      refine xZ.k_gR (me := xm79) hP_79 rfl (fun x1 => ?_)
      refine xZ.adv (me := xm79) hP_79 1 (pc' := 15) (lv' := [(0, .ref v0), (1, .int (yw v1))]) (st' := [.int (yw v1), .ref x1]) rfl ?_
      refine xZ.callv (κ := oR) (av := [.int (yw v1)]) (rest := []) (st' := fun x2 => [.ref x2]) (k0 := x1) (me := xm79) hP_79 rfl (Or.inl rfl) ⟨rfl, by decide⟩ rfl rfl (Nat.le_of_ble_eq_true rfl) (by decide) hP_29 (Nat.le_of_ble_eq_true rfl) (fun _ => rfl) (k_f_Hall_anySeries O f (d + 0) x1 v1 M) (fun x2 M1 => ?_)
      refine xZ.k_gJ (me := xm79) hP_79 rfl (fun x3 => ?_)
      refine xZ.jf_ne (me := xm79) hP_79 rfl (fun h3 => ?_) (fun h3 => ?_)
      · skip
        exact xZ.no
      · skip
        refine xZ.adv (me := xm79) hP_79 1 (pc' := 33) (lv' := [(0, .ref v0), (1, .int (yw v1))]) (st' := [.ref v0]) rfl ?_
        refine xZ.k_gR (me := xm79) hP_79 rfl (fun x4 => ?_)
        refine xZ.adv (me := xm79) hP_79 1 (pc' := 37) (lv' := [(0, .ref v0), (1, .int (yw v1))]) (st' := [.int (yw v1), .ref x4]) rfl ?_
        refine xZ.callv (κ := oR) (av := [.int (yw v1)]) (rest := []) (st' := fun x5 => [.ref x5]) (k0 := x4) (me := xm79) hP_79 rfl (Or.inl rfl) ⟨rfl, by decide⟩ rfl rfl (Nat.le_of_ble_eq_true rfl) (by decide) hP_29 (Nat.le_of_ble_eq_true rfl) (fun _ => rfl) (k_f_Hall_anySeries O f (d + 0) x4 v1 M1) (fun x5 M2 => ?_)
        exact xZ.retr (me := xm79) hP_79 rfl rfl rfl
def f_Calendarhall_readRule (O : Nat → Option va_E) (f : Nat) (v0 : Nat) (v1 : Int) (M : xM) : Option (Int × xM) :=
  (isO O M v0 12).bind fun _ =>
  xcl (f_Calendarhall_seriesNumbered O f v0 v1 M) fun x1 M1 =>
  (gR O M1 v0 12 7).bind fun x2 =>
  (gR O M1 x1 10 6).bind fun x3 =>
  (gJ O M1 x3 9 0).bind fun x4 =>
  (isO O M1 x2 8).bind fun _ =>
  xcl (f_Reader_parse O f x2 x4 M1) fun x5 M2 =>
  if yw x5 = yw (-1) then (
    (gR O M2 v0 12 7).bind fun x6 =>
    (gR O M2 x6 8 1).bind fun x7 =>
    (isO O M2 v0 12).bind fun _ =>
    xcl (f_Calendarhall_saveForUndo O f v0 M2) fun _ M3 =>
    (pJ M3 x1 10 7 0).bind fun M4 =>
    (gR O M4 x1 10 6).bind fun x9 =>
    (gJ O M4 x7 9 1).bind fun x10 =>
    (gJ O M4 x7 9 2).bind fun x11 =>
    (gJ O M4 x7 9 3).bind fun x12 =>
    (gJ O M4 x7 9 4).bind fun x13 =>
    (isO O M4 x9 9).bind fun _ =>
    xcl (f_Rule_put O f x9 x10 x11 x12 x13 M4) fun _ M5 =>
    (gR O M5 x1 10 6).bind fun x15 =>
    (gJ O M5 x7 9 5).bind fun x16 =>
    (gJ O M5 x7 9 6).bind fun x17 =>
    (isO O M5 x15 9).bind fun _ =>
    xcl (f_Rule_putEnd O f x15 x16 x17 M5) fun _ M6 =>
    (gR O M6 x1 10 6).bind fun x19 =>
    (isO O M6 x19 9).bind fun _ =>
    xcl (f_Rule_settle O f x19 M6) fun _ M7 =>
    (gJ O M7 x7 9 1).bind fun x21 =>
    some (x21, M7)
  ) else
  none
set_option maxRecDepth 20000 in
theorem k_f_Calendarhall_readRule (O : Nat → Option va_E) (f d : Nat) (v0 : Nat) (v1 : Int) (M : xM) : xZ oJ O (d + 10) 78 0 [(0, .ref v0), (1, .int (yw v1))] [] M (f_Calendarhall_readRule O f v0 v1 M) := by
  unfold f_Calendarhall_readRule
  refine xZ.adv (me := xm78) hP_78 2 (pc' := 2) (lv' := [(0, .ref v0), (1, .int (yw v1))]) (st' := [.int (yw v1), .ref v0]) rfl ?_
  refine xZ.callv (κ := oR) (av := [.int (yw v1)]) (rest := []) (st' := fun x1 => [.ref x1]) (k0 := v0) (me := xm78) hP_78 rfl (Or.inl rfl) ⟨rfl, by decide⟩ rfl rfl (Nat.le_of_ble_eq_true rfl) (by decide) hP_79 (Nat.le_of_ble_eq_true rfl) (fun _ => rfl) (k_f_Calendarhall_seriesNumbered O f (d + 8) v0 v1 M) (fun x1 M1 => ?_)
  refine xZ.adv (me := xm78) hP_78 2 (pc' := 7) (lv' := [(2, .ref x1), (0, .ref v0), (1, .int (yw v1))]) (st' := [.ref v0]) rfl ?_
  refine xZ.k_gR (me := xm78) hP_78 rfl (fun x2 => ?_)
  refine xZ.adv (me := xm78) hP_78 1 (pc' := 11) (lv' := [(2, .ref x1), (0, .ref v0), (1, .int (yw v1))]) (st' := [.ref x1, .ref x2]) rfl ?_
  refine xZ.k_gR (me := xm78) hP_78 rfl (fun x3 => ?_)
  refine xZ.k_gJ (me := xm78) hP_78 rfl (fun x4 => ?_)
  refine xZ.callv (κ := oJ) (av := [.int (yw x4)]) (rest := []) (st' := fun x5 => [.int (yw x5)]) (k0 := x2) (me := xm78) hP_78 rfl (Or.inl rfl) ⟨rfl, by decide⟩ rfl rfl (Nat.le_of_ble_eq_true rfl) (by decide) hP_64 (Nat.le_of_ble_eq_true rfl) (fun _ => rfl) (k_f_Reader_parse O f (d + 0) x2 x4 M1) (fun x5 M2 => ?_)
  refine xZ.adv (me := xm78) hP_78 1 (pc' := 21) (lv' := [(2, .ref x1), (0, .ref v0), (1, .int (yw v1))]) (st' := [.int (-1 : Int32), .int (yw x5)]) rfl ?_
  refine xZ.eqs (lv2 := [(2, .ref x1), (0, .ref v0), (1, .int (yw v1))]) (st2 := [.int (yw (-1)), .int (yw x5)]) rfl (by simp only [yl_lit, yL_lit, yw_add, yw_sub, yw_mul, yw_neg, yl_add, yl_sub, yl_mul, cj_and, cj_or, cj_xor, cj_shl, cj_shr, cj_ushr, cj_div, cj_i2c, cj_i2b, cj_dc, ck_and, ck_or, ck_xor, ck_shl, ck_shr, ck_ushr, ck_i2l, ck_l2i, ck_cmp]) ?_
  refine xZ.jc_eq (me := xm78) hP_78 rfl (fun h1 => ?_) (fun h1 => ?_)
  · skip
    refine xZ.adv (me := xm78) hP_78 1 (pc' := 33) (lv' := [(2, .ref x1), (0, .ref v0), (1, .int (yw v1))]) (st' := [.ref v0]) rfl ?_
    refine xZ.k_gR (me := xm78) hP_78 rfl (fun x6 => ?_)
    refine xZ.k_gR (me := xm78) hP_78 rfl (fun x7 => ?_)
    refine xZ.adv (me := xm78) hP_78 2 (pc' := 41) (lv' := [(3, .ref x7), (2, .ref x1), (0, .ref v0), (1, .int (yw v1))]) (st' := [.ref v0]) rfl ?_
    refine xZ.callv (κ := oU) (av := []) (rest := []) (st' := fun _ => []) (k0 := v0) (me := xm78) hP_78 rfl (Or.inl rfl) ⟨rfl, by decide⟩ rfl rfl (Nat.le_of_ble_eq_true rfl) (by decide) hP_23 (Nat.le_of_ble_eq_true rfl) (fun _ => rfl) (k_f_Calendarhall_saveForUndo O f (d + 5) v0 M2) (fun _ M3 => ?_)
    refine xZ.adv (me := xm78) hP_78 2 (pc' := 46) (lv' := [(3, .ref x7), (2, .ref x1), (0, .ref v0), (1, .int (yw v1))]) (st' := [.int (0 : Int32), .ref x1]) rfl ?_
    refine xZ.eqs (lv2 := [(3, .ref x7), (2, .ref x1), (0, .ref v0), (1, .int (yw v1))]) (st2 := [.int (yw 0), .ref x1]) rfl (by simp only [yl_lit, yL_lit, yw_add, yw_sub, yw_mul, yw_neg, yl_add, yl_sub, yl_mul, cj_and, cj_or, cj_xor, cj_shl, cj_shr, cj_ushr, cj_div, cj_i2c, cj_i2b, cj_dc, ck_and, ck_or, ck_xor, ck_shl, ck_shr, ck_ushr, ck_i2l, ck_l2i, ck_cmp]) ?_
    refine xZ.k_pJ (me := xm78) hP_78 rfl (fun M4 => ?_)
    refine xZ.adv (me := xm78) hP_78 1 (pc' := 50) (lv' := [(3, .ref x7), (2, .ref x1), (0, .ref v0), (1, .int (yw v1))]) (st' := [.ref x1]) rfl ?_
    refine xZ.k_gR (me := xm78) hP_78 rfl (fun x9 => ?_)
    refine xZ.adv (me := xm78) hP_78 1 (pc' := 54) (lv' := [(3, .ref x7), (2, .ref x1), (0, .ref v0), (1, .int (yw v1))]) (st' := [.ref x7, .ref x9]) rfl ?_
    refine xZ.k_gJ (me := xm78) hP_78 rfl (fun x10 => ?_)
    refine xZ.adv (me := xm78) hP_78 1 (pc' := 58) (lv' := [(3, .ref x7), (2, .ref x1), (0, .ref v0), (1, .int (yw v1))]) (st' := [.ref x7, .int (yw x10), .ref x9]) rfl ?_
    refine xZ.k_gJ (me := xm78) hP_78 rfl (fun x11 => ?_)
    refine xZ.adv (me := xm78) hP_78 1 (pc' := 62) (lv' := [(3, .ref x7), (2, .ref x1), (0, .ref v0), (1, .int (yw v1))]) (st' := [.ref x7, .int (yw x11), .int (yw x10), .ref x9]) rfl ?_
    refine xZ.k_gJ (me := xm78) hP_78 rfl (fun x12 => ?_)
    refine xZ.adv (me := xm78) hP_78 1 (pc' := 66) (lv' := [(3, .ref x7), (2, .ref x1), (0, .ref v0), (1, .int (yw v1))]) (st' := [.ref x7, .int (yw x12), .int (yw x11), .int (yw x10), .ref x9]) rfl ?_
    refine xZ.k_gJ (me := xm78) hP_78 rfl (fun x13 => ?_)
    refine xZ.callv (κ := oU) (av := [.int (yw x10), .int (yw x11), .int (yw x12), .int (yw x13)]) (rest := []) (st' := fun _ => []) (k0 := x9) (me := xm78) hP_78 rfl (Or.inl rfl) ⟨rfl, by decide⟩ rfl rfl (Nat.le_of_ble_eq_true rfl) (by decide) hP_32 (Nat.le_of_ble_eq_true rfl) (fun _ => rfl) (k_f_Rule_put O f (d + 9) x9 x10 x11 x12 x13 M4) (fun _ M5 => ?_)
    refine xZ.adv (me := xm78) hP_78 1 (pc' := 73) (lv' := [(3, .ref x7), (2, .ref x1), (0, .ref v0), (1, .int (yw v1))]) (st' := [.ref x1]) rfl ?_
    refine xZ.k_gR (me := xm78) hP_78 rfl (fun x15 => ?_)
    refine xZ.adv (me := xm78) hP_78 1 (pc' := 77) (lv' := [(3, .ref x7), (2, .ref x1), (0, .ref v0), (1, .int (yw v1))]) (st' := [.ref x7, .ref x15]) rfl ?_
    refine xZ.k_gJ (me := xm78) hP_78 rfl (fun x16 => ?_)
    refine xZ.adv (me := xm78) hP_78 1 (pc' := 81) (lv' := [(3, .ref x7), (2, .ref x1), (0, .ref v0), (1, .int (yw v1))]) (st' := [.ref x7, .int (yw x16), .ref x15]) rfl ?_
    refine xZ.k_gJ (me := xm78) hP_78 rfl (fun x17 => ?_)
    refine xZ.callv (κ := oU) (av := [.int (yw x16), .int (yw x17)]) (rest := []) (st' := fun _ => []) (k0 := x15) (me := xm78) hP_78 rfl (Or.inl rfl) ⟨rfl, by decide⟩ rfl rfl (Nat.le_of_ble_eq_true rfl) (by decide) hP_33 (Nat.le_of_ble_eq_true rfl) (fun _ => rfl) (k_f_Rule_putEnd O f (d + 9) x15 x16 x17 M5) (fun _ M6 => ?_)
    refine xZ.adv (me := xm78) hP_78 1 (pc' := 88) (lv' := [(3, .ref x7), (2, .ref x1), (0, .ref v0), (1, .int (yw v1))]) (st' := [.ref x1]) rfl ?_
    refine xZ.k_gR (me := xm78) hP_78 rfl (fun x19 => ?_)
    refine xZ.callv (κ := oU) (av := []) (rest := []) (st' := fun _ => []) (k0 := x19) (me := xm78) hP_78 rfl (Or.inl rfl) ⟨rfl, by decide⟩ rfl rfl (Nat.le_of_ble_eq_true rfl) (by decide) hP_43 (Nat.le_of_ble_eq_true rfl) (fun _ => rfl) (k_f_Rule_settle O f (d + 3) x19 M6) (fun _ M7 => ?_)
    refine xZ.adv (me := xm78) hP_78 1 (pc' := 95) (lv' := [(3, .ref x7), (2, .ref x1), (0, .ref v0), (1, .int (yw v1))]) (st' := [.ref x7]) rfl ?_
    refine xZ.k_gJ (me := xm78) hP_78 rfl (fun x21 => ?_)
    exact xZ.jreti (me := xm78) hP_78 rfl rfl
  · skip
    exact xZ.no
def f_Rule_isSound_147 (O : Nat → Option va_E) (f : Nat) (v4 : Int) (v5 : Int) (s0 : Int) (M : xM) : Option (Int × xM) :=
  if yw v4 = yw 0 then (
    some (0, M)
  ) else
  if yw v5 = yw 0 then (
    some (0, M)
  ) else
  if yw s0 = yw 0 then (
    some (0, M)
  ) else
  some (1, M)
set_option maxRecDepth 20000 in
theorem k_f_Rule_isSound_147 (O : Nat → Option va_E) (f d : Nat) (v4 : Int) (v5 : Int) (s0 : Int) (M : xM) : xZ oJ O (d + 0) 81 147 [(4, .int (yw v4)), (5, .int (yw v5))] [.int (yw s0)] M (f_Rule_isSound_147 O f v4 v5 s0 M) := by
  unfold f_Rule_isSound_147
  refine xZ.adv (me := xm81) hP_81 2 (pc' := 151) (lv' := [(7, .int (yw s0)), (4, .int (yw v4)), (5, .int (yw v5))]) (st' := [.int (yw v4)]) rfl ?_
  refine xZ.jf_eq (me := xm81) hP_81 rfl (fun h1 => ?_) (fun h1 => ?_)
  · skip
    refine xZ.adv (me := xm81) hP_81 1 (pc' := 169) (lv' := [(7, .int (yw s0)), (4, .int (yw v4)), (5, .int (yw v5))]) (st' := [.int (0 : Int32)]) rfl ?_
    refine xZ.eqs (lv2 := [(7, .int (yw s0)), (4, .int (yw v4)), (5, .int (yw v5))]) (st2 := [.int (yw 0)]) rfl (by simp only [yl_lit, yL_lit, yw_add, yw_sub, yw_mul, yw_neg, yl_add, yl_sub, yl_mul, cj_and, cj_or, cj_xor, cj_shl, cj_shr, cj_ushr, cj_div, cj_i2c, cj_i2b, cj_dc, ck_and, ck_or, ck_xor, ck_shl, ck_shr, ck_ushr, ck_i2l, ck_l2i, ck_cmp]) ?_
    exact xZ.jrete (me := xm81) hP_81 rfl rfl rfl
  · skip
    refine xZ.adv (me := xm81) hP_81 1 (pc' := 156) (lv' := [(7, .int (yw s0)), (4, .int (yw v4)), (5, .int (yw v5))]) (st' := [.int (yw v5)]) rfl ?_
    refine xZ.jf_eq (me := xm81) hP_81 rfl (fun h2 => ?_) (fun h2 => ?_)
    · skip
      refine xZ.adv (me := xm81) hP_81 1 (pc' := 169) (lv' := [(7, .int (yw s0)), (4, .int (yw v4)), (5, .int (yw v5))]) (st' := [.int (0 : Int32)]) rfl ?_
      refine xZ.eqs (lv2 := [(7, .int (yw s0)), (4, .int (yw v4)), (5, .int (yw v5))]) (st2 := [.int (yw 0)]) rfl (by simp only [yl_lit, yL_lit, yw_add, yw_sub, yw_mul, yw_neg, yl_add, yl_sub, yl_mul, cj_and, cj_or, cj_xor, cj_shl, cj_shr, cj_ushr, cj_div, cj_i2c, cj_i2b, cj_dc, ck_and, ck_or, ck_xor, ck_shl, ck_shr, ck_ushr, ck_i2l, ck_l2i, ck_cmp]) ?_
      exact xZ.jrete (me := xm81) hP_81 rfl rfl rfl
    · skip
      refine xZ.adv (me := xm81) hP_81 1 (pc' := 161) (lv' := [(7, .int (yw s0)), (4, .int (yw v4)), (5, .int (yw v5))]) (st' := [.int (yw s0)]) rfl ?_
      refine xZ.jf_eq (me := xm81) hP_81 rfl (fun h3 => ?_) (fun h3 => ?_)
      · skip
        refine xZ.adv (me := xm81) hP_81 1 (pc' := 169) (lv' := [(7, .int (yw s0)), (4, .int (yw v4)), (5, .int (yw v5))]) (st' := [.int (0 : Int32)]) rfl ?_
        refine xZ.eqs (lv2 := [(7, .int (yw s0)), (4, .int (yw v4)), (5, .int (yw v5))]) (st2 := [.int (yw 0)]) rfl (by simp only [yl_lit, yL_lit, yw_add, yw_sub, yw_mul, yw_neg, yl_add, yl_sub, yl_mul, cj_and, cj_or, cj_xor, cj_shl, cj_shr, cj_ushr, cj_div, cj_i2c, cj_i2b, cj_dc, ck_and, ck_or, ck_xor, ck_shl, ck_shr, ck_ushr, ck_i2l, ck_l2i, ck_cmp]) ?_
        exact xZ.jrete (me := xm81) hP_81 rfl rfl rfl
      · skip
        refine xZ.adv (me := xm81) hP_81 2 (pc' := 169) (lv' := [(7, .int (yw s0)), (4, .int (yw v4)), (5, .int (yw v5))]) (st' := [.int (1 : Int32)]) rfl ?_
        refine xZ.eqs (lv2 := [(7, .int (yw s0)), (4, .int (yw v4)), (5, .int (yw v5))]) (st2 := [.int (yw 1)]) rfl (by simp only [yl_lit, yL_lit, yw_add, yw_sub, yw_mul, yw_neg, yl_add, yl_sub, yl_mul, cj_and, cj_or, cj_xor, cj_shl, cj_shr, cj_ushr, cj_div, cj_i2c, cj_i2b, cj_dc, ck_and, ck_or, ck_xor, ck_shl, ck_shr, ck_ushr, ck_i2l, ck_l2i, ck_cmp]) ?_
        exact xZ.jrete (me := xm81) hP_81 rfl rfl rfl
def f_Rule_isSound_146 (O : Nat → Option va_E) (f : Nat) (v4 : Int) (v5 : Int) (M : xM) : Option (Int × xM) :=
  f_Rule_isSound_147 O f v4 v5 0 M
set_option maxRecDepth 20000 in
theorem k_f_Rule_isSound_146 (O : Nat → Option va_E) (f d : Nat) (v4 : Int) (v5 : Int) (M : xM) : xZ oJ O (d + 0) 81 146 [(4, .int (yw v4)), (5, .int (yw v5))] [] M (f_Rule_isSound_146 O f v4 v5 M) := by
  unfold f_Rule_isSound_146
  refine xZ.adv (me := xm81) hP_81 1 (pc' := 147) (lv' := [(4, .int (yw v4)), (5, .int (yw v5))]) (st' := [.int (0 : Int32)]) rfl ?_
  refine xZ.eqs (lv2 := [(4, .int (yw v4)), (5, .int (yw v5))]) (st2 := [.int (yw 0)]) rfl (by simp only [yl_lit, yL_lit, yw_add, yw_sub, yw_mul, yw_neg, yl_add, yl_sub, yl_mul, cj_and, cj_or, cj_xor, cj_shl, cj_shr, cj_ushr, cj_div, cj_i2c, cj_i2b, cj_dc, ck_and, ck_or, ck_xor, ck_shl, ck_shr, ck_ushr, ck_i2l, ck_l2i, ck_cmp]) ?_
  exact (k_f_Rule_isSound_147 O f d v4 v5 0 M)
def f_Rule_isSound_139 (O : Nat → Option va_E) (f : Nat) (v4 : Int) (v5 : Int) (s0 : Int) (s1 : Int) (M : xM) : Option (Int × xM) :=
  if yw s0 = yw s1 then (
    f_Rule_isSound_147 O f v4 v5 1 M
  ) else
  f_Rule_isSound_146 O f v4 v5 M
set_option maxRecDepth 20000 in
theorem k_f_Rule_isSound_139 (O : Nat → Option va_E) (f d : Nat) (v4 : Int) (v5 : Int) (s0 : Int) (s1 : Int) (M : xM) : xZ oJ O (d + 0) 81 139 [(4, .int (yw v4)), (5, .int (yw v5))] [.int (yw s1), .int (yw s0)] M (f_Rule_isSound_139 O f v4 v5 s0 s1 M) := by
  unfold f_Rule_isSound_139
  refine xZ.jc_ne (me := xm81) hP_81 rfl (fun h1 => ?_) (fun h1 => ?_)
  · skip
    refine xZ.adv (me := xm81) hP_81 2 (pc' := 147) (lv' := [(4, .int (yw v4)), (5, .int (yw v5))]) (st' := [.int (1 : Int32)]) rfl ?_
    refine xZ.eqs (lv2 := [(4, .int (yw v4)), (5, .int (yw v5))]) (st2 := [.int (yw 1)]) rfl (by simp only [yl_lit, yL_lit, yw_add, yw_sub, yw_mul, yw_neg, yl_add, yl_sub, yl_mul, cj_and, cj_or, cj_xor, cj_shl, cj_shr, cj_ushr, cj_div, cj_i2c, cj_i2b, cj_dc, ck_and, ck_or, ck_xor, ck_shl, ck_shr, ck_ushr, ck_i2l, ck_l2i, ck_cmp]) ?_
    exact (k_f_Rule_isSound_147 O f d v4 v5 1 M)
  · skip
    exact (k_f_Rule_isSound_146 O f d v4 v5 M)
def f_Rule_isSound_129 (O : Nat → Option va_E) (f : Nat) (v4 : Int) (v5 : Int) (v6 : Int) (s0 : Int) (M : xM) : Option (Int × xM) :=
  if yw v6 = yw 0 then (
    f_Rule_isSound_139 O f v4 v5 s0 1 M
  ) else
  f_Rule_isSound_139 O f v4 v5 s0 0 M
set_option maxRecDepth 20000 in
theorem k_f_Rule_isSound_129 (O : Nat → Option va_E) (f d : Nat) (v4 : Int) (v5 : Int) (v6 : Int) (s0 : Int) (M : xM) : xZ oJ O (d + 0) 81 129 [(4, .int (yw v4)), (5, .int (yw v5)), (6, .int (yw v6))] [.int (yw s0)] M (f_Rule_isSound_129 O f v4 v5 v6 s0 M) := by
  unfold f_Rule_isSound_129
  refine xZ.adv (me := xm81) hP_81 1 (pc' := 131) (lv' := [(4, .int (yw v4)), (5, .int (yw v5)), (6, .int (yw v6))]) (st' := [.int (yw v6), .int (yw s0)]) rfl ?_
  refine xZ.jf_ne (me := xm81) hP_81 rfl (fun h1 => ?_) (fun h1 => ?_)
  · skip
    refine xZ.adv (me := xm81) hP_81 2 (pc' := 139) (lv' := [(4, .int (yw v4)), (5, .int (yw v5)), (6, .int (yw v6))]) (st' := [.int (1 : Int32), .int (yw s0)]) rfl ?_
    refine xZ.eqs (lv2 := [(4, .int (yw v4)), (5, .int (yw v5)), (6, .int (yw v6))]) (st2 := [.int (yw 1), .int (yw s0)]) rfl (by simp only [yl_lit, yL_lit, yw_add, yw_sub, yw_mul, yw_neg, yl_add, yl_sub, yl_mul, cj_and, cj_or, cj_xor, cj_shl, cj_shr, cj_ushr, cj_div, cj_i2c, cj_i2b, cj_dc, ck_and, ck_or, ck_xor, ck_shl, ck_shr, ck_ushr, ck_i2l, ck_l2i, ck_cmp]) ?_
    exact xZ.sub (xsc (.head _) (xsc (.tail _ (.head _)) xsn)) (show ([4, 5, 6] : List Nat).Nodup from by decide) (k_f_Rule_isSound_139 O f d v4 v5 s0 1 M)
  · skip
    refine xZ.adv (me := xm81) hP_81 1 (pc' := 139) (lv' := [(4, .int (yw v4)), (5, .int (yw v5)), (6, .int (yw v6))]) (st' := [.int (0 : Int32), .int (yw s0)]) rfl ?_
    refine xZ.eqs (lv2 := [(4, .int (yw v4)), (5, .int (yw v5)), (6, .int (yw v6))]) (st2 := [.int (yw 0), .int (yw s0)]) rfl (by simp only [yl_lit, yL_lit, yw_add, yw_sub, yw_mul, yw_neg, yl_add, yl_sub, yl_mul, cj_and, cj_or, cj_xor, cj_shl, cj_shr, cj_ushr, cj_div, cj_i2c, cj_i2b, cj_dc, ck_and, ck_or, ck_xor, ck_shl, ck_shr, ck_ushr, ck_i2l, ck_l2i, ck_cmp]) ?_
    exact xZ.sub (xsc (.head _) (xsc (.tail _ (.head _)) xsn)) (show ([4, 5, 6] : List Nat).Nodup from by decide) (k_f_Rule_isSound_139 O f d v4 v5 s0 0 M)
def f_Rule_isSound_105 (O : Nat → Option va_E) (f : Nat) (v3 : Int) (v4 : Int) (v5 : Int) (s0 : Int) (M : xM) : Option (Int × xM) :=
  if yw v3 < yw (-s0) then (
    f_Rule_isSound_146 O f v4 v5 M
  ) else
  if yw s0 < yw v3 then (
    f_Rule_isSound_146 O f v4 v5 M
  ) else
  if yw v3 = yw 0 then (
    f_Rule_isSound_129 O f v4 v5 s0 1 M
  ) else
  f_Rule_isSound_129 O f v4 v5 s0 0 M
set_option maxRecDepth 20000 in
theorem k_f_Rule_isSound_105 (O : Nat → Option va_E) (f d : Nat) (v3 : Int) (v4 : Int) (v5 : Int) (s0 : Int) (M : xM) : xZ oJ O (d + 0) 81 105 [(3, .int (yw v3)), (4, .int (yw v4)), (5, .int (yw v5))] [.int (yw s0)] M (f_Rule_isSound_105 O f v3 v4 v5 s0 M) := by
  unfold f_Rule_isSound_105
  refine xZ.adv (me := xm81) hP_81 4 (pc' := 111) (lv' := [(6, .int (yw s0)), (3, .int (yw v3)), (4, .int (yw v4)), (5, .int (yw v5))]) (st' := [.int (-(yw s0)), .int (yw v3)]) rfl ?_
  refine xZ.eqs (lv2 := [(6, .int (yw s0)), (3, .int (yw v3)), (4, .int (yw v4)), (5, .int (yw v5))]) (st2 := [.int (yw (-s0)), .int (yw v3)]) rfl (by simp only [yl_lit, yL_lit, yw_add, yw_sub, yw_mul, yw_neg, yl_add, yl_sub, yl_mul, cj_and, cj_or, cj_xor, cj_shl, cj_shr, cj_ushr, cj_div, cj_i2c, cj_i2b, cj_dc, ck_and, ck_or, ck_xor, ck_shl, ck_shr, ck_ushr, ck_i2l, ck_l2i, ck_cmp]) ?_
  refine xZ.jc_lt (me := xm81) hP_81 rfl (fun h1 => ?_) (fun h1 => ?_)
  · skip
    exact xZ.sub (xsc (.tail _ (.tail _ (.head _))) (xsc (.tail _ (.tail _ (.tail _ (.head _)))) xsn)) (show ([6, 3, 4, 5] : List Nat).Nodup from by decide) (k_f_Rule_isSound_146 O f d v4 v5 M)
  · skip
    refine xZ.adv (me := xm81) hP_81 2 (pc' := 117) (lv' := [(6, .int (yw s0)), (3, .int (yw v3)), (4, .int (yw v4)), (5, .int (yw v5))]) (st' := [.int (yw s0), .int (yw v3)]) rfl ?_
    refine xZ.jc_gt (me := xm81) hP_81 rfl (fun h2 => ?_) (fun h2 => ?_)
    · skip
      exact xZ.sub (xsc (.tail _ (.tail _ (.head _))) (xsc (.tail _ (.tail _ (.tail _ (.head _)))) xsn)) (show ([6, 3, 4, 5] : List Nat).Nodup from by decide) (k_f_Rule_isSound_146 O f d v4 v5 M)
    · skip
      refine xZ.adv (me := xm81) hP_81 1 (pc' := 121) (lv' := [(6, .int (yw s0)), (3, .int (yw v3)), (4, .int (yw v4)), (5, .int (yw v5))]) (st' := [.int (yw v3)]) rfl ?_
      refine xZ.jf_ne (me := xm81) hP_81 rfl (fun h3 => ?_) (fun h3 => ?_)
      · skip
        refine xZ.adv (me := xm81) hP_81 2 (pc' := 129) (lv' := [(6, .int (yw s0)), (3, .int (yw v3)), (4, .int (yw v4)), (5, .int (yw v5))]) (st' := [.int (1 : Int32)]) rfl ?_
        refine xZ.eqs (lv2 := [(6, .int (yw s0)), (3, .int (yw v3)), (4, .int (yw v4)), (5, .int (yw v5))]) (st2 := [.int (yw 1)]) rfl (by simp only [yl_lit, yL_lit, yw_add, yw_sub, yw_mul, yw_neg, yl_add, yl_sub, yl_mul, cj_and, cj_or, cj_xor, cj_shl, cj_shr, cj_ushr, cj_div, cj_i2c, cj_i2b, cj_dc, ck_and, ck_or, ck_xor, ck_shl, ck_shr, ck_ushr, ck_i2l, ck_l2i, ck_cmp]) ?_
        exact xZ.sub (xsc (.tail _ (.tail _ (.head _))) (xsc (.tail _ (.tail _ (.tail _ (.head _)))) (xsc (.head _) xsn))) (show ([6, 3, 4, 5] : List Nat).Nodup from by decide) (k_f_Rule_isSound_129 O f d v4 v5 s0 1 M)
      · skip
        refine xZ.adv (me := xm81) hP_81 1 (pc' := 129) (lv' := [(6, .int (yw s0)), (3, .int (yw v3)), (4, .int (yw v4)), (5, .int (yw v5))]) (st' := [.int (0 : Int32)]) rfl ?_
        refine xZ.eqs (lv2 := [(6, .int (yw s0)), (3, .int (yw v3)), (4, .int (yw v4)), (5, .int (yw v5))]) (st2 := [.int (yw 0)]) rfl (by simp only [yl_lit, yL_lit, yw_add, yw_sub, yw_mul, yw_neg, yl_add, yl_sub, yl_mul, cj_and, cj_or, cj_xor, cj_shl, cj_shr, cj_ushr, cj_div, cj_i2c, cj_i2b, cj_dc, ck_and, ck_or, ck_xor, ck_shl, ck_shr, ck_ushr, ck_i2l, ck_l2i, ck_cmp]) ?_
        exact xZ.sub (xsc (.tail _ (.tail _ (.head _))) (xsc (.tail _ (.tail _ (.tail _ (.head _)))) (xsc (.head _) xsn))) (show ([6, 3, 4, 5] : List Nat).Nodup from by decide) (k_f_Rule_isSound_129 O f d v4 v5 s0 0 M)
def f_Rule_isSound_83 (O : Nat → Option va_E) (f : Nat) (v0 : Int) (v3 : Int) (v4 : Int) (s0 : Int) (M : xM) : Option (Int × xM) :=
  if yw v0 = yw 3 then (
    f_Rule_isSound_105 O f v3 v4 s0 31 M
  ) else
  if yw v0 = yw 4 then (
    f_Rule_isSound_105 O f v3 v4 s0 5 M
  ) else
  f_Rule_isSound_105 O f v3 v4 s0 0 M
set_option maxRecDepth 20000 in
theorem k_f_Rule_isSound_83 (O : Nat → Option va_E) (f d : Nat) (v0 : Int) (v3 : Int) (v4 : Int) (s0 : Int) (M : xM) : xZ oJ O (d + 0) 81 83 [(0, .int (yw v0)), (3, .int (yw v3)), (4, .int (yw v4))] [.int (yw s0)] M (f_Rule_isSound_83 O f v0 v3 v4 s0 M) := by
  unfold f_Rule_isSound_83
  refine xZ.adv (me := xm81) hP_81 3 (pc' := 87) (lv' := [(5, .int (yw s0)), (0, .int (yw v0)), (3, .int (yw v3)), (4, .int (yw v4))]) (st' := [.int (3 : Int32), .int (yw v0)]) rfl ?_
  refine xZ.eqs (lv2 := [(5, .int (yw s0)), (0, .int (yw v0)), (3, .int (yw v3)), (4, .int (yw v4))]) (st2 := [.int (yw 3), .int (yw v0)]) rfl (by simp only [yl_lit, yL_lit, yw_add, yw_sub, yw_mul, yw_neg, yl_add, yl_sub, yl_mul, cj_and, cj_or, cj_xor, cj_shl, cj_shr, cj_ushr, cj_div, cj_i2c, cj_i2b, cj_dc, ck_and, ck_or, ck_xor, ck_shl, ck_shr, ck_ushr, ck_i2l, ck_l2i, ck_cmp]) ?_
  refine xZ.jc_ne (me := xm81) hP_81 rfl (fun h1 => ?_) (fun h1 => ?_)
  · skip
    refine xZ.adv (me := xm81) hP_81 2 (pc' := 105) (lv' := [(5, .int (yw s0)), (0, .int (yw v0)), (3, .int (yw v3)), (4, .int (yw v4))]) (st' := [.int (31 : Int32)]) rfl ?_
    refine xZ.eqs (lv2 := [(5, .int (yw s0)), (0, .int (yw v0)), (3, .int (yw v3)), (4, .int (yw v4))]) (st2 := [.int (yw 31)]) rfl (by simp only [yl_lit, yL_lit, yw_add, yw_sub, yw_mul, yw_neg, yl_add, yl_sub, yl_mul, cj_and, cj_or, cj_xor, cj_shl, cj_shr, cj_ushr, cj_div, cj_i2c, cj_i2b, cj_dc, ck_and, ck_or, ck_xor, ck_shl, ck_shr, ck_ushr, ck_i2l, ck_l2i, ck_cmp]) ?_
    exact xZ.sub (xsc (.tail _ (.tail _ (.head _))) (xsc (.tail _ (.tail _ (.tail _ (.head _)))) (xsc (.head _) xsn))) (show ([5, 0, 3, 4] : List Nat).Nodup from by decide) (k_f_Rule_isSound_105 O f d v3 v4 s0 31 M)
  · skip
    refine xZ.adv (me := xm81) hP_81 2 (pc' := 97) (lv' := [(5, .int (yw s0)), (0, .int (yw v0)), (3, .int (yw v3)), (4, .int (yw v4))]) (st' := [.int (4 : Int32), .int (yw v0)]) rfl ?_
    refine xZ.eqs (lv2 := [(5, .int (yw s0)), (0, .int (yw v0)), (3, .int (yw v3)), (4, .int (yw v4))]) (st2 := [.int (yw 4), .int (yw v0)]) rfl (by simp only [yl_lit, yL_lit, yw_add, yw_sub, yw_mul, yw_neg, yl_add, yl_sub, yl_mul, cj_and, cj_or, cj_xor, cj_shl, cj_shr, cj_ushr, cj_div, cj_i2c, cj_i2b, cj_dc, ck_and, ck_or, ck_xor, ck_shl, ck_shr, ck_ushr, ck_i2l, ck_l2i, ck_cmp]) ?_
    refine xZ.jc_ne (me := xm81) hP_81 rfl (fun h2 => ?_) (fun h2 => ?_)
    · skip
      refine xZ.adv (me := xm81) hP_81 2 (pc' := 105) (lv' := [(5, .int (yw s0)), (0, .int (yw v0)), (3, .int (yw v3)), (4, .int (yw v4))]) (st' := [.int (5 : Int32)]) rfl ?_
      refine xZ.eqs (lv2 := [(5, .int (yw s0)), (0, .int (yw v0)), (3, .int (yw v3)), (4, .int (yw v4))]) (st2 := [.int (yw 5)]) rfl (by simp only [yl_lit, yL_lit, yw_add, yw_sub, yw_mul, yw_neg, yl_add, yl_sub, yl_mul, cj_and, cj_or, cj_xor, cj_shl, cj_shr, cj_ushr, cj_div, cj_i2c, cj_i2b, cj_dc, ck_and, ck_or, ck_xor, ck_shl, ck_shr, ck_ushr, ck_i2l, ck_l2i, ck_cmp]) ?_
      exact xZ.sub (xsc (.tail _ (.tail _ (.head _))) (xsc (.tail _ (.tail _ (.tail _ (.head _)))) (xsc (.head _) xsn))) (show ([5, 0, 3, 4] : List Nat).Nodup from by decide) (k_f_Rule_isSound_105 O f d v3 v4 s0 5 M)
    · skip
      refine xZ.adv (me := xm81) hP_81 1 (pc' := 105) (lv' := [(5, .int (yw s0)), (0, .int (yw v0)), (3, .int (yw v3)), (4, .int (yw v4))]) (st' := [.int (0 : Int32)]) rfl ?_
      refine xZ.eqs (lv2 := [(5, .int (yw s0)), (0, .int (yw v0)), (3, .int (yw v3)), (4, .int (yw v4))]) (st2 := [.int (yw 0)]) rfl (by simp only [yl_lit, yL_lit, yw_add, yw_sub, yw_mul, yw_neg, yl_add, yl_sub, yl_mul, cj_and, cj_or, cj_xor, cj_shl, cj_shr, cj_ushr, cj_div, cj_i2c, cj_i2b, cj_dc, ck_and, ck_or, ck_xor, ck_shl, ck_shr, ck_ushr, ck_i2l, ck_l2i, ck_cmp]) ?_
      exact xZ.sub (xsc (.tail _ (.tail _ (.head _))) (xsc (.tail _ (.tail _ (.tail _ (.head _)))) (xsc (.head _) xsn))) (show ([5, 0, 3, 4] : List Nat).Nodup from by decide) (k_f_Rule_isSound_105 O f d v3 v4 s0 0 M)
def f_Rule_isSound_70 (O : Nat → Option va_E) (f : Nat) (v0 : Int) (v3 : Int) (v4 : Int) (M : xM) : Option (Int × xM) :=
  f_Rule_isSound_83 O f v0 v3 v4 0 M
set_option maxRecDepth 20000 in
theorem k_f_Rule_isSound_70 (O : Nat → Option va_E) (f d : Nat) (v0 : Int) (v3 : Int) (v4 : Int) (M : xM) : xZ oJ O (d + 0) 81 70 [(0, .int (yw v0)), (3, .int (yw v3)), (4, .int (yw v4))] [] M (f_Rule_isSound_70 O f v0 v3 v4 M) := by
  unfold f_Rule_isSound_70
  refine xZ.adv (me := xm81) hP_81 2 (pc' := 83) (lv' := [(0, .int (yw v0)), (3, .int (yw v3)), (4, .int (yw v4))]) (st' := [.int (0 : Int32)]) rfl ?_
  refine xZ.eqs (lv2 := [(0, .int (yw v0)), (3, .int (yw v3)), (4, .int (yw v4))]) (st2 := [.int (yw 0)]) rfl (by simp only [yl_lit, yL_lit, yw_add, yw_sub, yw_mul, yw_neg, yl_add, yl_sub, yl_mul, cj_and, cj_or, cj_xor, cj_shl, cj_shr, cj_ushr, cj_div, cj_i2c, cj_i2b, cj_dc, ck_and, ck_or, ck_xor, ck_shl, ck_shr, ck_ushr, ck_i2l, ck_l2i, ck_cmp]) ?_
  exact (k_f_Rule_isSound_83 O f d v0 v3 v4 0 M)
def f_Rule_isSound_55 (O : Nat → Option va_E) (f : Nat) (v0 : Int) (v2 : Int) (v3 : Int) (v4 : Int) (M : xM) : Option (Int × xM) :=
  if yw v2 < yw 1 then (
    f_Rule_isSound_70 O f v0 v3 v4 M
  ) else
  if yw 127 < yw v2 then (
    f_Rule_isSound_70 O f v0 v3 v4 M
  ) else
  f_Rule_isSound_83 O f v0 v3 v4 1 M
set_option maxRecDepth 20000 in
theorem k_f_Rule_isSound_55 (O : Nat → Option va_E) (f d : Nat) (v0 : Int) (v2 : Int) (v3 : Int) (v4 : Int) (M : xM) : xZ oJ O (d + 0) 81 55 [(0, .int (yw v0)), (2, .int (yw v2)), (3, .int (yw v3)), (4, .int (yw v4))] [] M (f_Rule_isSound_55 O f v0 v2 v3 v4 M) := by
  unfold f_Rule_isSound_55
  refine xZ.adv (me := xm81) hP_81 2 (pc' := 57) (lv' := [(0, .int (yw v0)), (2, .int (yw v2)), (3, .int (yw v3)), (4, .int (yw v4))]) (st' := [.int (1 : Int32), .int (yw v2)]) rfl ?_
  refine xZ.eqs (lv2 := [(0, .int (yw v0)), (2, .int (yw v2)), (3, .int (yw v3)), (4, .int (yw v4))]) (st2 := [.int (yw 1), .int (yw v2)]) rfl (by simp only [yl_lit, yL_lit, yw_add, yw_sub, yw_mul, yw_neg, yl_add, yl_sub, yl_mul, cj_and, cj_or, cj_xor, cj_shl, cj_shr, cj_ushr, cj_div, cj_i2c, cj_i2b, cj_dc, ck_and, ck_or, ck_xor, ck_shl, ck_shr, ck_ushr, ck_i2l, ck_l2i, ck_cmp]) ?_
  refine xZ.jc_lt (me := xm81) hP_81 rfl (fun h1 => ?_) (fun h1 => ?_)
  · skip
    exact xZ.sub (xsc (.head _) (xsc (.tail _ (.tail _ (.head _))) (xsc (.tail _ (.tail _ (.tail _ (.head _)))) xsn))) (show ([0, 2, 3, 4] : List Nat).Nodup from by decide) (k_f_Rule_isSound_70 O f d v0 v3 v4 M)
  · skip
    refine xZ.adv (me := xm81) hP_81 2 (pc' := 63) (lv' := [(0, .int (yw v0)), (2, .int (yw v2)), (3, .int (yw v3)), (4, .int (yw v4))]) (st' := [.int (127 : Int32), .int (yw v2)]) rfl ?_
    refine xZ.eqs (lv2 := [(0, .int (yw v0)), (2, .int (yw v2)), (3, .int (yw v3)), (4, .int (yw v4))]) (st2 := [.int (yw 127), .int (yw v2)]) rfl (by simp only [yl_lit, yL_lit, yw_add, yw_sub, yw_mul, yw_neg, yl_add, yl_sub, yl_mul, cj_and, cj_or, cj_xor, cj_shl, cj_shr, cj_ushr, cj_div, cj_i2c, cj_i2b, cj_dc, ck_and, ck_or, ck_xor, ck_shl, ck_shr, ck_ushr, ck_i2l, ck_l2i, ck_cmp]) ?_
    refine xZ.jc_gt (me := xm81) hP_81 rfl (fun h2 => ?_) (fun h2 => ?_)
    · skip
      exact xZ.sub (xsc (.head _) (xsc (.tail _ (.tail _ (.head _))) (xsc (.tail _ (.tail _ (.tail _ (.head _)))) xsn))) (show ([0, 2, 3, 4] : List Nat).Nodup from by decide) (k_f_Rule_isSound_70 O f d v0 v3 v4 M)
    · skip
      refine xZ.adv (me := xm81) hP_81 2 (pc' := 83) (lv' := [(0, .int (yw v0)), (2, .int (yw v2)), (3, .int (yw v3)), (4, .int (yw v4))]) (st' := [.int (1 : Int32)]) rfl ?_
      refine xZ.eqs (lv2 := [(0, .int (yw v0)), (2, .int (yw v2)), (3, .int (yw v3)), (4, .int (yw v4))]) (st2 := [.int (yw 1)]) rfl (by simp only [yl_lit, yL_lit, yw_add, yw_sub, yw_mul, yw_neg, yl_add, yl_sub, yl_mul, cj_and, cj_or, cj_xor, cj_shl, cj_shr, cj_ushr, cj_div, cj_i2c, cj_i2b, cj_dc, ck_and, ck_or, ck_xor, ck_shl, ck_shr, ck_ushr, ck_i2l, ck_l2i, ck_cmp]) ?_
      exact xZ.sub (xsc (.head _) (xsc (.tail _ (.tail _ (.head _))) (xsc (.tail _ (.tail _ (.tail _ (.head _)))) xsn))) (show ([0, 2, 3, 4] : List Nat).Nodup from by decide) (k_f_Rule_isSound_83 O f d v0 v3 v4 1 M)
def f_Rule_isSound_43 (O : Nat → Option va_E) (f : Nat) (v0 : Int) (v2 : Int) (v3 : Int) (s0 : Int) (M : xM) : Option (Int × xM) :=
  if yw v0 = yw 2 then (
    f_Rule_isSound_55 O f v0 v2 v3 s0 M
  ) else
  if yw v0 = yw 4 then (
    f_Rule_isSound_55 O f v0 v2 v3 s0 M
  ) else
  if yw v2 = yw 0 then (
    f_Rule_isSound_83 O f v0 v3 s0 1 M
  ) else
  f_Rule_isSound_83 O f v0 v3 s0 0 M
set_option maxRecDepth 20000 in
theorem k_f_Rule_isSound_43 (O : Nat → Option va_E) (f d : Nat) (v0 : Int) (v2 : Int) (v3 : Int) (s0 : Int) (M : xM) : xZ oJ O (d + 0) 81 43 [(0, .int (yw v0)), (2, .int (yw v2)), (3, .int (yw v3))] [.int (yw s0)] M (f_Rule_isSound_43 O f v0 v2 v3 s0 M) := by
  unfold f_Rule_isSound_43
  refine xZ.adv (me := xm81) hP_81 3 (pc' := 47) (lv' := [(4, .int (yw s0)), (0, .int (yw v0)), (2, .int (yw v2)), (3, .int (yw v3))]) (st' := [.int (2 : Int32), .int (yw v0)]) rfl ?_
  refine xZ.eqs (lv2 := [(4, .int (yw s0)), (0, .int (yw v0)), (2, .int (yw v2)), (3, .int (yw v3))]) (st2 := [.int (yw 2), .int (yw v0)]) rfl (by simp only [yl_lit, yL_lit, yw_add, yw_sub, yw_mul, yw_neg, yl_add, yl_sub, yl_mul, cj_and, cj_or, cj_xor, cj_shl, cj_shr, cj_ushr, cj_div, cj_i2c, cj_i2b, cj_dc, ck_and, ck_or, ck_xor, ck_shl, ck_shr, ck_ushr, ck_i2l, ck_l2i, ck_cmp]) ?_
  refine xZ.jc_eq (me := xm81) hP_81 rfl (fun h1 => ?_) (fun h1 => ?_)
  · skip
    exact xZ.sub (xsc (.tail _ (.head _)) (xsc (.tail _ (.tail _ (.head _))) (xsc (.tail _ (.tail _ (.tail _ (.head _)))) (xsc (.head _) xsn)))) (show ([4, 0, 2, 3] : List Nat).Nodup from by decide) (k_f_Rule_isSound_55 O f d v0 v2 v3 s0 M)
  · skip
    refine xZ.adv (me := xm81) hP_81 2 (pc' := 52) (lv' := [(4, .int (yw s0)), (0, .int (yw v0)), (2, .int (yw v2)), (3, .int (yw v3))]) (st' := [.int (4 : Int32), .int (yw v0)]) rfl ?_
    refine xZ.eqs (lv2 := [(4, .int (yw s0)), (0, .int (yw v0)), (2, .int (yw v2)), (3, .int (yw v3))]) (st2 := [.int (yw 4), .int (yw v0)]) rfl (by simp only [yl_lit, yL_lit, yw_add, yw_sub, yw_mul, yw_neg, yl_add, yl_sub, yl_mul, cj_and, cj_or, cj_xor, cj_shl, cj_shr, cj_ushr, cj_div, cj_i2c, cj_i2b, cj_dc, ck_and, ck_or, ck_xor, ck_shl, ck_shr, ck_ushr, ck_i2l, ck_l2i, ck_cmp]) ?_
    refine xZ.jc_ne (me := xm81) hP_81 rfl (fun h2 => ?_) (fun h2 => ?_)
    · skip
      exact xZ.sub (xsc (.tail _ (.head _)) (xsc (.tail _ (.tail _ (.head _))) (xsc (.tail _ (.tail _ (.tail _ (.head _)))) (xsc (.head _) xsn)))) (show ([4, 0, 2, 3] : List Nat).Nodup from by decide) (k_f_Rule_isSound_55 O f d v0 v2 v3 s0 M)
    · skip
      refine xZ.adv (me := xm81) hP_81 1 (pc' := 75) (lv' := [(4, .int (yw s0)), (0, .int (yw v0)), (2, .int (yw v2)), (3, .int (yw v3))]) (st' := [.int (yw v2)]) rfl ?_
      refine xZ.jf_ne (me := xm81) hP_81 rfl (fun h3 => ?_) (fun h3 => ?_)
      · skip
        refine xZ.adv (me := xm81) hP_81 2 (pc' := 83) (lv' := [(4, .int (yw s0)), (0, .int (yw v0)), (2, .int (yw v2)), (3, .int (yw v3))]) (st' := [.int (1 : Int32)]) rfl ?_
        refine xZ.eqs (lv2 := [(4, .int (yw s0)), (0, .int (yw v0)), (2, .int (yw v2)), (3, .int (yw v3))]) (st2 := [.int (yw 1)]) rfl (by simp only [yl_lit, yL_lit, yw_add, yw_sub, yw_mul, yw_neg, yl_add, yl_sub, yl_mul, cj_and, cj_or, cj_xor, cj_shl, cj_shr, cj_ushr, cj_div, cj_i2c, cj_i2b, cj_dc, ck_and, ck_or, ck_xor, ck_shl, ck_shr, ck_ushr, ck_i2l, ck_l2i, ck_cmp]) ?_
        exact xZ.sub (xsc (.tail _ (.head _)) (xsc (.tail _ (.tail _ (.tail _ (.head _)))) (xsc (.head _) xsn))) (show ([4, 0, 2, 3] : List Nat).Nodup from by decide) (k_f_Rule_isSound_83 O f d v0 v3 s0 1 M)
      · skip
        refine xZ.adv (me := xm81) hP_81 1 (pc' := 83) (lv' := [(4, .int (yw s0)), (0, .int (yw v0)), (2, .int (yw v2)), (3, .int (yw v3))]) (st' := [.int (0 : Int32)]) rfl ?_
        refine xZ.eqs (lv2 := [(4, .int (yw s0)), (0, .int (yw v0)), (2, .int (yw v2)), (3, .int (yw v3))]) (st2 := [.int (yw 0)]) rfl (by simp only [yl_lit, yL_lit, yw_add, yw_sub, yw_mul, yw_neg, yl_add, yl_sub, yl_mul, cj_and, cj_or, cj_xor, cj_shl, cj_shr, cj_ushr, cj_div, cj_i2c, cj_i2b, cj_dc, ck_and, ck_or, ck_xor, ck_shl, ck_shr, ck_ushr, ck_i2l, ck_l2i, ck_cmp]) ?_
        exact xZ.sub (xsc (.tail _ (.head _)) (xsc (.tail _ (.tail _ (.tail _ (.head _)))) (xsc (.head _) xsn))) (show ([4, 0, 2, 3] : List Nat).Nodup from by decide) (k_f_Rule_isSound_83 O f d v0 v3 s0 0 M)
def f_Rule_isSound_42 (O : Nat → Option va_E) (f : Nat) (v0 : Int) (v2 : Int) (v3 : Int) (M : xM) : Option (Int × xM) :=
  f_Rule_isSound_43 O f v0 v2 v3 0 M
set_option maxRecDepth 20000 in
theorem k_f_Rule_isSound_42 (O : Nat → Option va_E) (f d : Nat) (v0 : Int) (v2 : Int) (v3 : Int) (M : xM) : xZ oJ O (d + 0) 81 42 [(0, .int (yw v0)), (2, .int (yw v2)), (3, .int (yw v3))] [] M (f_Rule_isSound_42 O f v0 v2 v3 M) := by
  unfold f_Rule_isSound_42
  refine xZ.adv (me := xm81) hP_81 1 (pc' := 43) (lv' := [(0, .int (yw v0)), (2, .int (yw v2)), (3, .int (yw v3))]) (st' := [.int (0 : Int32)]) rfl ?_
  refine xZ.eqs (lv2 := [(0, .int (yw v0)), (2, .int (yw v2)), (3, .int (yw v3))]) (st2 := [.int (yw 0)]) rfl (by simp only [yl_lit, yL_lit, yw_add, yw_sub, yw_mul, yw_neg, yl_add, yl_sub, yl_mul, cj_and, cj_or, cj_xor, cj_shl, cj_shr, cj_ushr, cj_div, cj_i2c, cj_i2b, cj_dc, ck_and, ck_or, ck_xor, ck_shl, ck_shr, ck_ushr, ck_i2l, ck_l2i, ck_cmp]) ?_
  exact (k_f_Rule_isSound_43 O f d v0 v2 v3 0 M)
def f_Rule_isSound (O : Nat → Option va_E) (f : Nat) (v0 : Int) (v1 : Int) (v2 : Int) (v3 : Int) (M : xM) : Option (Int × xM) :=
  if yw v0 < yw 0 then (
    some (0, M)
  ) else
  if yw v0 ≤ yw 5 then (
    if yw v0 = yw 0 then (
      if yw v1 = yw 0 then (
        f_Rule_isSound_43 O f v0 v2 v3 1 M
      ) else
      f_Rule_isSound_43 O f v0 v2 v3 0 M
    ) else
    if yw v1 < yw 1 then (
      f_Rule_isSound_42 O f v0 v2 v3 M
    ) else
    if yw 99 < yw v1 then (
      f_Rule_isSound_42 O f v0 v2 v3 M
    ) else
    f_Rule_isSound_43 O f v0 v2 v3 1 M
  ) else
  some (0, M)
set_option maxRecDepth 20000 in
theorem k_f_Rule_isSound (O : Nat → Option va_E) (f d : Nat) (v0 : Int) (v1 : Int) (v2 : Int) (v3 : Int) (M : xM) : xZ oJ O (d + 0) 81 0 [(0, .int (yw v0)), (1, .int (yw v1)), (2, .int (yw v2)), (3, .int (yw v3))] [] M (f_Rule_isSound O f v0 v1 v2 v3 M) := by
  unfold f_Rule_isSound
  refine xZ.adv (me := xm81) hP_81 1 (pc' := 1) (lv' := [(0, .int (yw v0)), (1, .int (yw v1)), (2, .int (yw v2)), (3, .int (yw v3))]) (st' := [.int (yw v0)]) rfl ?_
  refine xZ.jf_lt (me := xm81) hP_81 rfl (fun h1 => ?_) (fun h1 => ?_)
  · skip
    refine xZ.adv (me := xm81) hP_81 1 (pc' := 10) (lv' := [(0, .int (yw v0)), (1, .int (yw v1)), (2, .int (yw v2)), (3, .int (yw v3))]) (st' := [.int (0 : Int32)]) rfl ?_
    refine xZ.eqs (lv2 := [(0, .int (yw v0)), (1, .int (yw v1)), (2, .int (yw v2)), (3, .int (yw v3))]) (st2 := [.int (yw 0)]) rfl (by simp only [yl_lit, yL_lit, yw_add, yw_sub, yw_mul, yw_neg, yl_add, yl_sub, yl_mul, cj_and, cj_or, cj_xor, cj_shl, cj_shr, cj_ushr, cj_div, cj_i2c, cj_i2b, cj_dc, ck_and, ck_or, ck_xor, ck_shl, ck_shr, ck_ushr, ck_i2l, ck_l2i, ck_cmp]) ?_
    exact xZ.jrete (me := xm81) hP_81 rfl rfl rfl
  · skip
    refine xZ.adv (me := xm81) hP_81 2 (pc' := 6) (lv' := [(0, .int (yw v0)), (1, .int (yw v1)), (2, .int (yw v2)), (3, .int (yw v3))]) (st' := [.int (5 : Int32), .int (yw v0)]) rfl ?_
    refine xZ.eqs (lv2 := [(0, .int (yw v0)), (1, .int (yw v1)), (2, .int (yw v2)), (3, .int (yw v3))]) (st2 := [.int (yw 5), .int (yw v0)]) rfl (by simp only [yl_lit, yL_lit, yw_add, yw_sub, yw_mul, yw_neg, yl_add, yl_sub, yl_mul, cj_and, cj_or, cj_xor, cj_shl, cj_shr, cj_ushr, cj_div, cj_i2c, cj_i2b, cj_dc, ck_and, ck_or, ck_xor, ck_shl, ck_shr, ck_ushr, ck_i2l, ck_l2i, ck_cmp]) ?_
    refine xZ.jc_le (me := xm81) hP_81 rfl (fun h2 => ?_) (fun h2 => ?_)
    · skip
      refine xZ.adv (me := xm81) hP_81 1 (pc' := 12) (lv' := [(0, .int (yw v0)), (1, .int (yw v1)), (2, .int (yw v2)), (3, .int (yw v3))]) (st' := [.int (yw v0)]) rfl ?_
      refine xZ.jf_ne (me := xm81) hP_81 rfl (fun h3 => ?_) (fun h3 => ?_)
      · skip
        refine xZ.adv (me := xm81) hP_81 1 (pc' := 16) (lv' := [(0, .int (yw v0)), (1, .int (yw v1)), (2, .int (yw v2)), (3, .int (yw v3))]) (st' := [.int (yw v1)]) rfl ?_
        refine xZ.jf_ne (me := xm81) hP_81 rfl (fun h4 => ?_) (fun h4 => ?_)
        · skip
          refine xZ.adv (me := xm81) hP_81 2 (pc' := 43) (lv' := [(0, .int (yw v0)), (1, .int (yw v1)), (2, .int (yw v2)), (3, .int (yw v3))]) (st' := [.int (1 : Int32)]) rfl ?_
          refine xZ.eqs (lv2 := [(0, .int (yw v0)), (1, .int (yw v1)), (2, .int (yw v2)), (3, .int (yw v3))]) (st2 := [.int (yw 1)]) rfl (by simp only [yl_lit, yL_lit, yw_add, yw_sub, yw_mul, yw_neg, yl_add, yl_sub, yl_mul, cj_and, cj_or, cj_xor, cj_shl, cj_shr, cj_ushr, cj_div, cj_i2c, cj_i2b, cj_dc, ck_and, ck_or, ck_xor, ck_shl, ck_shr, ck_ushr, ck_i2l, ck_l2i, ck_cmp]) ?_
          exact xZ.sub (xsc (.head _) (xsc (.tail _ (.tail _ (.head _))) (xsc (.tail _ (.tail _ (.tail _ (.head _)))) xsn))) (show ([0, 1, 2, 3] : List Nat).Nodup from by decide) (k_f_Rule_isSound_43 O f d v0 v2 v3 1 M)
        · skip
          refine xZ.adv (me := xm81) hP_81 2 (pc' := 43) (lv' := [(0, .int (yw v0)), (1, .int (yw v1)), (2, .int (yw v2)), (3, .int (yw v3))]) (st' := [.int (0 : Int32)]) rfl ?_
          refine xZ.eqs (lv2 := [(0, .int (yw v0)), (1, .int (yw v1)), (2, .int (yw v2)), (3, .int (yw v3))]) (st2 := [.int (yw 0)]) rfl (by simp only [yl_lit, yL_lit, yw_add, yw_sub, yw_mul, yw_neg, yl_add, yl_sub, yl_mul, cj_and, cj_or, cj_xor, cj_shl, cj_shr, cj_ushr, cj_div, cj_i2c, cj_i2b, cj_dc, ck_and, ck_or, ck_xor, ck_shl, ck_shr, ck_ushr, ck_i2l, ck_l2i, ck_cmp]) ?_
          exact xZ.sub (xsc (.head _) (xsc (.tail _ (.tail _ (.head _))) (xsc (.tail _ (.tail _ (.tail _ (.head _)))) xsn))) (show ([0, 1, 2, 3] : List Nat).Nodup from by decide) (k_f_Rule_isSound_43 O f d v0 v2 v3 0 M)
      · skip
        refine xZ.adv (me := xm81) hP_81 2 (pc' := 29) (lv' := [(0, .int (yw v0)), (1, .int (yw v1)), (2, .int (yw v2)), (3, .int (yw v3))]) (st' := [.int (1 : Int32), .int (yw v1)]) rfl ?_
        refine xZ.eqs (lv2 := [(0, .int (yw v0)), (1, .int (yw v1)), (2, .int (yw v2)), (3, .int (yw v3))]) (st2 := [.int (yw 1), .int (yw v1)]) rfl (by simp only [yl_lit, yL_lit, yw_add, yw_sub, yw_mul, yw_neg, yl_add, yl_sub, yl_mul, cj_and, cj_or, cj_xor, cj_shl, cj_shr, cj_ushr, cj_div, cj_i2c, cj_i2b, cj_dc, ck_and, ck_or, ck_xor, ck_shl, ck_shr, ck_ushr, ck_i2l, ck_l2i, ck_cmp]) ?_
        refine xZ.jc_lt (me := xm81) hP_81 rfl (fun h5 => ?_) (fun h5 => ?_)
        · skip
          exact xZ.sub (xsc (.head _) (xsc (.tail _ (.tail _ (.head _))) (xsc (.tail _ (.tail _ (.tail _ (.head _)))) xsn))) (show ([0, 1, 2, 3] : List Nat).Nodup from by decide) (k_f_Rule_isSound_42 O f d v0 v2 v3 M)
        · skip
          refine xZ.adv (me := xm81) hP_81 2 (pc' := 35) (lv' := [(0, .int (yw v0)), (1, .int (yw v1)), (2, .int (yw v2)), (3, .int (yw v3))]) (st' := [.int (99 : Int32), .int (yw v1)]) rfl ?_
          refine xZ.eqs (lv2 := [(0, .int (yw v0)), (1, .int (yw v1)), (2, .int (yw v2)), (3, .int (yw v3))]) (st2 := [.int (yw 99), .int (yw v1)]) rfl (by simp only [yl_lit, yL_lit, yw_add, yw_sub, yw_mul, yw_neg, yl_add, yl_sub, yl_mul, cj_and, cj_or, cj_xor, cj_shl, cj_shr, cj_ushr, cj_div, cj_i2c, cj_i2b, cj_dc, ck_and, ck_or, ck_xor, ck_shl, ck_shr, ck_ushr, ck_i2l, ck_l2i, ck_cmp]) ?_
          refine xZ.jc_gt (me := xm81) hP_81 rfl (fun h6 => ?_) (fun h6 => ?_)
          · skip
            exact xZ.sub (xsc (.head _) (xsc (.tail _ (.tail _ (.head _))) (xsc (.tail _ (.tail _ (.tail _ (.head _)))) xsn))) (show ([0, 1, 2, 3] : List Nat).Nodup from by decide) (k_f_Rule_isSound_42 O f d v0 v2 v3 M)
          · skip
            refine xZ.adv (me := xm81) hP_81 2 (pc' := 43) (lv' := [(0, .int (yw v0)), (1, .int (yw v1)), (2, .int (yw v2)), (3, .int (yw v3))]) (st' := [.int (1 : Int32)]) rfl ?_
            refine xZ.eqs (lv2 := [(0, .int (yw v0)), (1, .int (yw v1)), (2, .int (yw v2)), (3, .int (yw v3))]) (st2 := [.int (yw 1)]) rfl (by simp only [yl_lit, yL_lit, yw_add, yw_sub, yw_mul, yw_neg, yl_add, yl_sub, yl_mul, cj_and, cj_or, cj_xor, cj_shl, cj_shr, cj_ushr, cj_div, cj_i2c, cj_i2b, cj_dc, ck_and, ck_or, ck_xor, ck_shl, ck_shr, ck_ushr, ck_i2l, ck_l2i, ck_cmp]) ?_
            exact xZ.sub (xsc (.head _) (xsc (.tail _ (.tail _ (.head _))) (xsc (.tail _ (.tail _ (.tail _ (.head _)))) xsn))) (show ([0, 1, 2, 3] : List Nat).Nodup from by decide) (k_f_Rule_isSound_43 O f d v0 v2 v3 1 M)
    · skip
      refine xZ.adv (me := xm81) hP_81 1 (pc' := 10) (lv' := [(0, .int (yw v0)), (1, .int (yw v1)), (2, .int (yw v2)), (3, .int (yw v3))]) (st' := [.int (0 : Int32)]) rfl ?_
      refine xZ.eqs (lv2 := [(0, .int (yw v0)), (1, .int (yw v1)), (2, .int (yw v2)), (3, .int (yw v3))]) (st2 := [.int (yw 0)]) rfl (by simp only [yl_lit, yL_lit, yw_add, yw_sub, yw_mul, yw_neg, yl_add, yl_sub, yl_mul, cj_and, cj_or, cj_xor, cj_shl, cj_shr, cj_ushr, cj_div, cj_i2c, cj_i2b, cj_dc, ck_and, ck_or, ck_xor, ck_shl, ck_shr, ck_ushr, ck_i2l, ck_l2i, ck_cmp]) ?_
      exact xZ.jrete (me := xm81) hP_81 rfl rfl rfl
def f_Calendarhall_setRule (O : Nat → Option va_E) (f : Nat) (v0 : Nat) (v1 : Int) (v2 : Int) (v3 : Int) (v4 : Int) (v5 : Int) (M : xM) : Option (Int × xM) :=
  (isO O M v0 12).bind fun _ =>
  xcl (f_Calendarhall_seriesNumbered O f v0 v1 M) fun x1 M1 =>
  xcl (f_Rule_isSound O f v2 v3 v4 v5 M1) fun x2 M2 =>
  if yw x2 = yw 0 then (
    none
  ) else
  (gR O M2 x1 10 6).bind fun x3 =>
  (gJ O M2 x3 9 1).bind fun x4 =>
  (isO O M2 v0 12).bind fun _ =>
  xcl (f_Calendarhall_saveForUndo O f v0 M2) fun _ M3 =>
  (pJ M3 x1 10 7 0).bind fun M4 =>
  (gR O M4 x1 10 6).bind fun x6 =>
  (isO O M4 x6 9).bind fun _ =>
  xcl (f_Rule_put O f x6 v2 v3 v4 v5 M4) fun _ M5 =>
  (gR O M5 x1 10 6).bind fun x8 =>
  (isO O M5 x8 9).bind fun _ =>
  xcl (f_Rule_settle O f x8 M5) fun _ M6 =>
  some (x4, M6)
set_option maxRecDepth 20000 in
theorem k_f_Calendarhall_setRule (O : Nat → Option va_E) (f d : Nat) (v0 : Nat) (v1 : Int) (v2 : Int) (v3 : Int) (v4 : Int) (v5 : Int) (M : xM) : xZ oJ O (d + 7) 80 0 [(0, .ref v0), (1, .int (yw v1)), (2, .int (yw v2)), (3, .int (yw v3)), (4, .int (yw v4)), (5, .int (yw v5))] [] M (f_Calendarhall_setRule O f v0 v1 v2 v3 v4 v5 M) := by
  unfold f_Calendarhall_setRule
  refine xZ.adv (me := xm80) hP_80 2 (pc' := 2) (lv' := [(0, .ref v0), (1, .int (yw v1)), (2, .int (yw v2)), (3, .int (yw v3)), (4, .int (yw v4)), (5, .int (yw v5))]) (st' := [.int (yw v1), .ref v0]) rfl ?_
  refine xZ.callv (κ := oR) (av := [.int (yw v1)]) (rest := []) (st' := fun x1 => [.ref x1]) (k0 := v0) (me := xm80) hP_80 rfl (Or.inl rfl) ⟨rfl, by decide⟩ rfl rfl (Nat.le_of_ble_eq_true rfl) (by decide) hP_79 (Nat.le_of_ble_eq_true rfl) (fun _ => rfl) (k_f_Calendarhall_seriesNumbered O f (d + 5) v0 v1 M) (fun x1 M1 => ?_)
  refine xZ.adv (me := xm80) hP_80 5 (pc' := 13) (lv' := [(6, .ref x1), (0, .ref v0), (1, .int (yw v1)), (2, .int (yw v2)), (3, .int (yw v3)), (4, .int (yw v4)), (5, .int (yw v5))]) (st' := [.int (yw v5), .int (yw v4), .int (yw v3), .int (yw v2)]) rfl ?_
  refine xZ.calls (κ := oJ) (av := [.int (yw v2), .int (yw v3), .int (yw v4), .int (yw v5)]) (rest := []) (st' := fun x2 => [.int (yw x2)]) (me := xm80) hP_80 rfl rfl rfl (Nat.le_of_ble_eq_true rfl) (by decide) hP_81 (Nat.le_of_ble_eq_true rfl) (fun _ => rfl) (k_f_Rule_isSound O f (d + 6) v2 v3 v4 v5 M1) (fun x2 M2 => ?_)
  refine xZ.jf_ne (me := xm80) hP_80 rfl (fun h1 => ?_) (fun h1 => ?_)
  · skip
    exact xZ.no
  · skip
    refine xZ.adv (me := xm80) hP_80 1 (pc' := 29) (lv' := [(6, .ref x1), (0, .ref v0), (1, .int (yw v1)), (2, .int (yw v2)), (3, .int (yw v3)), (4, .int (yw v4)), (5, .int (yw v5))]) (st' := [.ref x1]) rfl ?_
    refine xZ.k_gR (me := xm80) hP_80 rfl (fun x3 => ?_)
    refine xZ.k_gJ (me := xm80) hP_80 rfl (fun x4 => ?_)
    refine xZ.adv (me := xm80) hP_80 2 (pc' := 38) (lv' := [(7, .int (yw x4)), (6, .ref x1), (0, .ref v0), (1, .int (yw v1)), (2, .int (yw v2)), (3, .int (yw v3)), (4, .int (yw v4)), (5, .int (yw v5))]) (st' := [.ref v0]) rfl ?_
    refine xZ.callv (κ := oU) (av := []) (rest := []) (st' := fun _ => []) (k0 := v0) (me := xm80) hP_80 rfl (Or.inl rfl) ⟨rfl, by decide⟩ rfl rfl (Nat.le_of_ble_eq_true rfl) (by decide) hP_23 (Nat.le_of_ble_eq_true rfl) (fun _ => rfl) (k_f_Calendarhall_saveForUndo O f (d + 2) v0 M2) (fun _ M3 => ?_)
    refine xZ.adv (me := xm80) hP_80 2 (pc' := 44) (lv' := [(7, .int (yw x4)), (6, .ref x1), (0, .ref v0), (1, .int (yw v1)), (2, .int (yw v2)), (3, .int (yw v3)), (4, .int (yw v4)), (5, .int (yw v5))]) (st' := [.int (0 : Int32), .ref x1]) rfl ?_
    refine xZ.eqs (lv2 := [(7, .int (yw x4)), (6, .ref x1), (0, .ref v0), (1, .int (yw v1)), (2, .int (yw v2)), (3, .int (yw v3)), (4, .int (yw v4)), (5, .int (yw v5))]) (st2 := [.int (yw 0), .ref x1]) rfl (by simp only [yl_lit, yL_lit, yw_add, yw_sub, yw_mul, yw_neg, yl_add, yl_sub, yl_mul, cj_and, cj_or, cj_xor, cj_shl, cj_shr, cj_ushr, cj_div, cj_i2c, cj_i2b, cj_dc, ck_and, ck_or, ck_xor, ck_shl, ck_shr, ck_ushr, ck_i2l, ck_l2i, ck_cmp]) ?_
    refine xZ.k_pJ (me := xm80) hP_80 rfl (fun M4 => ?_)
    refine xZ.adv (me := xm80) hP_80 1 (pc' := 49) (lv' := [(7, .int (yw x4)), (6, .ref x1), (0, .ref v0), (1, .int (yw v1)), (2, .int (yw v2)), (3, .int (yw v3)), (4, .int (yw v4)), (5, .int (yw v5))]) (st' := [.ref x1]) rfl ?_
    refine xZ.k_gR (me := xm80) hP_80 rfl (fun x6 => ?_)
    refine xZ.adv (me := xm80) hP_80 4 (pc' := 58) (lv' := [(7, .int (yw x4)), (6, .ref x1), (0, .ref v0), (1, .int (yw v1)), (2, .int (yw v2)), (3, .int (yw v3)), (4, .int (yw v4)), (5, .int (yw v5))]) (st' := [.int (yw v5), .int (yw v4), .int (yw v3), .int (yw v2), .ref x6]) rfl ?_
    refine xZ.callv (κ := oU) (av := [.int (yw v2), .int (yw v3), .int (yw v4), .int (yw v5)]) (rest := []) (st' := fun _ => []) (k0 := x6) (me := xm80) hP_80 rfl (Or.inl rfl) ⟨rfl, by decide⟩ rfl rfl (Nat.le_of_ble_eq_true rfl) (by decide) hP_32 (Nat.le_of_ble_eq_true rfl) (fun _ => rfl) (k_f_Rule_put O f (d + 6) x6 v2 v3 v4 v5 M4) (fun _ M5 => ?_)
    refine xZ.adv (me := xm80) hP_80 1 (pc' := 63) (lv' := [(7, .int (yw x4)), (6, .ref x1), (0, .ref v0), (1, .int (yw v1)), (2, .int (yw v2)), (3, .int (yw v3)), (4, .int (yw v4)), (5, .int (yw v5))]) (st' := [.ref x1]) rfl ?_
    refine xZ.k_gR (me := xm80) hP_80 rfl (fun x8 => ?_)
    refine xZ.callv (κ := oU) (av := []) (rest := []) (st' := fun _ => []) (k0 := x8) (me := xm80) hP_80 rfl (Or.inl rfl) ⟨rfl, by decide⟩ rfl rfl (Nat.le_of_ble_eq_true rfl) (by decide) hP_43 (Nat.le_of_ble_eq_true rfl) (fun _ => rfl) (k_f_Rule_settle O f (d + 0) x8 M5) (fun _ M6 => ?_)
    refine xZ.adv (me := xm80) hP_80 1 (pc' := 71) (lv' := [(7, .int (yw x4)), (6, .ref x1), (0, .ref v0), (1, .int (yw v1)), (2, .int (yw v2)), (3, .int (yw v3)), (4, .int (yw v4)), (5, .int (yw v5))]) (st' := [.int (yw x4)]) rfl ?_
    exact xZ.jreti (me := xm80) hP_80 rfl rfl
def f_Calendarhall_setEnd_56 (O : Nat → Option va_E) (f : Nat) (v0 : Nat) (v2 : Int) (v3 : Int) (v4 : Nat) (M : xM) : Option (Int × xM) :=
  (gR O M v4 10 6).bind fun x1 =>
  (gJ O M x1 9 5).bind fun x2 =>
  (isO O M v0 12).bind fun _ =>
  xcl (f_Calendarhall_saveForUndo O f v0 M) fun _ M1 =>
  (pJ M1 v4 10 7 0).bind fun M2 =>
  (gR O M2 v4 10 6).bind fun x4 =>
  (isO O M2 x4 9).bind fun _ =>
  xcl (f_Rule_putEnd O f x4 v2 v3 M2) fun _ M3 =>
  (gR O M3 v4 10 6).bind fun x6 =>
  (isO O M3 x6 9).bind fun _ =>
  xcl (f_Rule_settle O f x6 M3) fun _ M4 =>
  some (x2, M4)
set_option maxRecDepth 20000 in
theorem k_f_Calendarhall_setEnd_56 (O : Nat → Option va_E) (f d : Nat) (v0 : Nat) (v2 : Int) (v3 : Int) (v4 : Nat) (M : xM) : xZ oJ O (d + 7) 82 56 [(0, .ref v0), (2, .int (yw v2)), (3, .int (yw v3)), (4, .ref v4)] [] M (f_Calendarhall_setEnd_56 O f v0 v2 v3 v4 M) := by
  unfold f_Calendarhall_setEnd_56
  refine xZ.adv (me := xm82) hP_82 1 (pc' := 58) (lv' := [(0, .ref v0), (2, .int (yw v2)), (3, .int (yw v3)), (4, .ref v4)]) (st' := [.ref v4]) rfl ?_
  refine xZ.k_gR (me := xm82) hP_82 rfl (fun x1 => ?_)
  refine xZ.k_gJ (me := xm82) hP_82 rfl (fun x2 => ?_)
  refine xZ.adv (me := xm82) hP_82 2 (pc' := 67) (lv' := [(5, .int (yw x2)), (0, .ref v0), (2, .int (yw v2)), (3, .int (yw v3)), (4, .ref v4)]) (st' := [.ref v0]) rfl ?_
  refine xZ.callv (κ := oU) (av := []) (rest := []) (st' := fun _ => []) (k0 := v0) (me := xm82) hP_82 rfl (Or.inl rfl) ⟨rfl, by decide⟩ rfl rfl (Nat.le_of_ble_eq_true rfl) (by decide) hP_23 (Nat.le_of_ble_eq_true rfl) (fun _ => rfl) (k_f_Calendarhall_saveForUndo O f (d + 2) v0 M) (fun _ M1 => ?_)
  refine xZ.adv (me := xm82) hP_82 2 (pc' := 73) (lv' := [(5, .int (yw x2)), (0, .ref v0), (2, .int (yw v2)), (3, .int (yw v3)), (4, .ref v4)]) (st' := [.int (0 : Int32), .ref v4]) rfl ?_
  refine xZ.eqs (lv2 := [(5, .int (yw x2)), (0, .ref v0), (2, .int (yw v2)), (3, .int (yw v3)), (4, .ref v4)]) (st2 := [.int (yw 0), .ref v4]) rfl (by simp only [yl_lit, yL_lit, yw_add, yw_sub, yw_mul, yw_neg, yl_add, yl_sub, yl_mul, cj_and, cj_or, cj_xor, cj_shl, cj_shr, cj_ushr, cj_div, cj_i2c, cj_i2b, cj_dc, ck_and, ck_or, ck_xor, ck_shl, ck_shr, ck_ushr, ck_i2l, ck_l2i, ck_cmp]) ?_
  refine xZ.k_pJ (me := xm82) hP_82 rfl (fun M2 => ?_)
  refine xZ.adv (me := xm82) hP_82 1 (pc' := 78) (lv' := [(5, .int (yw x2)), (0, .ref v0), (2, .int (yw v2)), (3, .int (yw v3)), (4, .ref v4)]) (st' := [.ref v4]) rfl ?_
  refine xZ.k_gR (me := xm82) hP_82 rfl (fun x4 => ?_)
  refine xZ.adv (me := xm82) hP_82 2 (pc' := 83) (lv' := [(5, .int (yw x2)), (0, .ref v0), (2, .int (yw v2)), (3, .int (yw v3)), (4, .ref v4)]) (st' := [.int (yw v3), .int (yw v2), .ref x4]) rfl ?_
  refine xZ.callv (κ := oU) (av := [.int (yw v2), .int (yw v3)]) (rest := []) (st' := fun _ => []) (k0 := x4) (me := xm82) hP_82 rfl (Or.inl rfl) ⟨rfl, by decide⟩ rfl rfl (Nat.le_of_ble_eq_true rfl) (by decide) hP_33 (Nat.le_of_ble_eq_true rfl) (fun _ => rfl) (k_f_Rule_putEnd O f (d + 6) x4 v2 v3 M2) (fun _ M3 => ?_)
  refine xZ.adv (me := xm82) hP_82 1 (pc' := 88) (lv' := [(5, .int (yw x2)), (0, .ref v0), (2, .int (yw v2)), (3, .int (yw v3)), (4, .ref v4)]) (st' := [.ref v4]) rfl ?_
  refine xZ.k_gR (me := xm82) hP_82 rfl (fun x6 => ?_)
  refine xZ.callv (κ := oU) (av := []) (rest := []) (st' := fun _ => []) (k0 := x6) (me := xm82) hP_82 rfl (Or.inl rfl) ⟨rfl, by decide⟩ rfl rfl (Nat.le_of_ble_eq_true rfl) (by decide) hP_43 (Nat.le_of_ble_eq_true rfl) (fun _ => rfl) (k_f_Rule_settle O f (d + 0) x6 M3) (fun _ M4 => ?_)
  refine xZ.adv (me := xm82) hP_82 1 (pc' := 96) (lv' := [(5, .int (yw x2)), (0, .ref v0), (2, .int (yw v2)), (3, .int (yw v3)), (4, .ref v4)]) (st' := [.int (yw x2)]) rfl ?_
  exact xZ.jreti (me := xm82) hP_82 rfl rfl
def f_Calendarhall_setEnd (O : Nat → Option va_E) (f : Nat) (v0 : Nat) (v1 : Int) (v2 : Int) (v3 : Int) (M : xM) : Option (Int × xM) :=
  (isO O M v0 12).bind fun _ =>
  xcl (f_Calendarhall_seriesNumbered O f v0 v1 M) fun x1 M1 =>
  xcl (f_Calendarhall_needRange O f v2 0 2 M1) fun _ M2 =>
  if yw v2 = yw 0 then (
    xcl (f_Calendarhall_needRange O f v3 0 0 M2) fun _ M3 =>
    f_Calendarhall_setEnd_56 O f v0 v2 v3 x1 M3
  ) else
  if yw v2 = yw 1 then (
    xcl (f_Calendarhall_needRange O f v3 1 500 M2) fun _ M4 =>
    f_Calendarhall_setEnd_56 O f v0 v2 v3 x1 M4
  ) else
  (gR O M2 x1 10 6).bind fun x5 =>
  (gJ O M2 x5 9 0).bind fun x6 =>
  xcl (f_Calendarhall_needRange O f v3 x6 146000 M2) fun _ M5 =>
  f_Calendarhall_setEnd_56 O f v0 v2 v3 x1 M5
set_option maxRecDepth 20000 in
theorem k_f_Calendarhall_setEnd (O : Nat → Option va_E) (f d : Nat) (v0 : Nat) (v1 : Int) (v2 : Int) (v3 : Int) (M : xM) : xZ oJ O (d + 7) 82 0 [(0, .ref v0), (1, .int (yw v1)), (2, .int (yw v2)), (3, .int (yw v3))] [] M (f_Calendarhall_setEnd O f v0 v1 v2 v3 M) := by
  unfold f_Calendarhall_setEnd
  refine xZ.adv (me := xm82) hP_82 2 (pc' := 2) (lv' := [(0, .ref v0), (1, .int (yw v1)), (2, .int (yw v2)), (3, .int (yw v3))]) (st' := [.int (yw v1), .ref v0]) rfl ?_
  refine xZ.callv (κ := oR) (av := [.int (yw v1)]) (rest := []) (st' := fun x1 => [.ref x1]) (k0 := v0) (me := xm82) hP_82 rfl (Or.inl rfl) ⟨rfl, by decide⟩ rfl rfl (Nat.le_of_ble_eq_true rfl) (by decide) hP_79 (Nat.le_of_ble_eq_true rfl) (fun _ => rfl) (k_f_Calendarhall_seriesNumbered O f (d + 5) v0 v1 M) (fun x1 M1 => ?_)
  refine xZ.adv (me := xm82) hP_82 4 (pc' := 10) (lv' := [(4, .ref x1), (0, .ref v0), (1, .int (yw v1)), (2, .int (yw v2)), (3, .int (yw v3))]) (st' := [.int (2 : Int32), .int (0 : Int32), .int (yw v2)]) rfl ?_
  refine xZ.eqs (lv2 := [(4, .ref x1), (0, .ref v0), (1, .int (yw v1)), (2, .int (yw v2)), (3, .int (yw v3))]) (st2 := [.int (yw 2), .int (yw 0), .int (yw v2)]) rfl (by simp only [yl_lit, yL_lit, yw_add, yw_sub, yw_mul, yw_neg, yl_add, yl_sub, yl_mul, cj_and, cj_or, cj_xor, cj_shl, cj_shr, cj_ushr, cj_div, cj_i2c, cj_i2b, cj_dc, ck_and, ck_or, ck_xor, ck_shl, ck_shr, ck_ushr, ck_i2l, ck_l2i, ck_cmp]) ?_
  refine xZ.calls (κ := oU) (av := [.int (yw v2), .int (yw 0), .int (yw 2)]) (rest := []) (st' := fun _ => []) (me := xm82) hP_82 rfl rfl rfl (Nat.le_of_ble_eq_true rfl) (by decide) hP_22 (Nat.le_of_ble_eq_true rfl) (fun _ => rfl) (k_f_Calendarhall_needRange O f (d + 6) v2 0 2 M1) (fun _ M2 => ?_)
  refine xZ.adv (me := xm82) hP_82 1 (pc' := 14) (lv' := [(4, .ref x1), (0, .ref v0), (1, .int (yw v1)), (2, .int (yw v2)), (3, .int (yw v3))]) (st' := [.int (yw v2)]) rfl ?_
  refine xZ.jf_ne (me := xm82) hP_82 rfl (fun h1 => ?_) (fun h1 => ?_)
  · skip
    refine xZ.adv (me := xm82) hP_82 3 (pc' := 20) (lv' := [(4, .ref x1), (0, .ref v0), (1, .int (yw v1)), (2, .int (yw v2)), (3, .int (yw v3))]) (st' := [.int (0 : Int32), .int (0 : Int32), .int (yw v3)]) rfl ?_
    refine xZ.eqs (lv2 := [(4, .ref x1), (0, .ref v0), (1, .int (yw v1)), (2, .int (yw v2)), (3, .int (yw v3))]) (st2 := [.int (yw 0), .int (yw 0), .int (yw v3)]) rfl (by simp only [yl_lit, yL_lit, yw_add, yw_sub, yw_mul, yw_neg, yl_add, yl_sub, yl_mul, cj_and, cj_or, cj_xor, cj_shl, cj_shr, cj_ushr, cj_div, cj_i2c, cj_i2b, cj_dc, ck_and, ck_or, ck_xor, ck_shl, ck_shr, ck_ushr, ck_i2l, ck_l2i, ck_cmp]) ?_
    refine xZ.calls (κ := oU) (av := [.int (yw v3), .int (yw 0), .int (yw 0)]) (rest := []) (st' := fun _ => []) (me := xm82) hP_82 rfl rfl rfl (Nat.le_of_ble_eq_true rfl) (by decide) hP_22 (Nat.le_of_ble_eq_true rfl) (fun _ => rfl) (k_f_Calendarhall_needRange O f (d + 6) v3 0 0 M2) (fun _ M3 => ?_)
    refine xZ.adv (me := xm82) hP_82 1 (pc' := 56) (lv' := [(4, .ref x1), (0, .ref v0), (1, .int (yw v1)), (2, .int (yw v2)), (3, .int (yw v3))]) (st' := []) rfl ?_
    exact xZ.sub (xsc (.tail _ (.head _)) (xsc (.tail _ (.tail _ (.tail _ (.head _)))) (xsc (.tail _ (.tail _ (.tail _ (.tail _ (.head _))))) (xsc (.head _) xsn)))) (show ([4, 0, 1, 2, 3] : List Nat).Nodup from by decide) (k_f_Calendarhall_setEnd_56 O f d v0 v2 v3 x1 M3)
  · skip
    refine xZ.adv (me := xm82) hP_82 2 (pc' := 28) (lv' := [(4, .ref x1), (0, .ref v0), (1, .int (yw v1)), (2, .int (yw v2)), (3, .int (yw v3))]) (st' := [.int (1 : Int32), .int (yw v2)]) rfl ?_
    refine xZ.eqs (lv2 := [(4, .ref x1), (0, .ref v0), (1, .int (yw v1)), (2, .int (yw v2)), (3, .int (yw v3))]) (st2 := [.int (yw 1), .int (yw v2)]) rfl (by simp only [yl_lit, yL_lit, yw_add, yw_sub, yw_mul, yw_neg, yl_add, yl_sub, yl_mul, cj_and, cj_or, cj_xor, cj_shl, cj_shr, cj_ushr, cj_div, cj_i2c, cj_i2b, cj_dc, ck_and, ck_or, ck_xor, ck_shl, ck_shr, ck_ushr, ck_i2l, ck_l2i, ck_cmp]) ?_
    refine xZ.jc_ne (me := xm82) hP_82 rfl (fun h2 => ?_) (fun h2 => ?_)
    · skip
      refine xZ.adv (me := xm82) hP_82 3 (pc' := 36) (lv' := [(4, .ref x1), (0, .ref v0), (1, .int (yw v1)), (2, .int (yw v2)), (3, .int (yw v3))]) (st' := [.int (500 : Int32), .int (1 : Int32), .int (yw v3)]) rfl ?_
      refine xZ.eqs (lv2 := [(4, .ref x1), (0, .ref v0), (1, .int (yw v1)), (2, .int (yw v2)), (3, .int (yw v3))]) (st2 := [.int (yw 500), .int (yw 1), .int (yw v3)]) rfl (by simp only [yl_lit, yL_lit, yw_add, yw_sub, yw_mul, yw_neg, yl_add, yl_sub, yl_mul, cj_and, cj_or, cj_xor, cj_shl, cj_shr, cj_ushr, cj_div, cj_i2c, cj_i2b, cj_dc, ck_and, ck_or, ck_xor, ck_shl, ck_shr, ck_ushr, ck_i2l, ck_l2i, ck_cmp]) ?_
      refine xZ.calls (κ := oU) (av := [.int (yw v3), .int (yw 1), .int (yw 500)]) (rest := []) (st' := fun _ => []) (me := xm82) hP_82 rfl rfl rfl (Nat.le_of_ble_eq_true rfl) (by decide) hP_22 (Nat.le_of_ble_eq_true rfl) (fun _ => rfl) (k_f_Calendarhall_needRange O f (d + 6) v3 1 500 M2) (fun _ M4 => ?_)
      refine xZ.adv (me := xm82) hP_82 1 (pc' := 56) (lv' := [(4, .ref x1), (0, .ref v0), (1, .int (yw v1)), (2, .int (yw v2)), (3, .int (yw v3))]) (st' := []) rfl ?_
      exact xZ.sub (xsc (.tail _ (.head _)) (xsc (.tail _ (.tail _ (.tail _ (.head _)))) (xsc (.tail _ (.tail _ (.tail _ (.tail _ (.head _))))) (xsc (.head _) xsn)))) (show ([4, 0, 1, 2, 3] : List Nat).Nodup from by decide) (k_f_Calendarhall_setEnd_56 O f d v0 v2 v3 x1 M4)
    · skip
      refine xZ.adv (me := xm82) hP_82 2 (pc' := 45) (lv' := [(4, .ref x1), (0, .ref v0), (1, .int (yw v1)), (2, .int (yw v2)), (3, .int (yw v3))]) (st' := [.ref x1, .int (yw v3)]) rfl ?_
      refine xZ.k_gR (me := xm82) hP_82 rfl (fun x5 => ?_)
      refine xZ.k_gJ (me := xm82) hP_82 rfl (fun x6 => ?_)
      refine xZ.adv (me := xm82) hP_82 1 (pc' := 53) (lv' := [(4, .ref x1), (0, .ref v0), (1, .int (yw v1)), (2, .int (yw v2)), (3, .int (yw v3))]) (st' := [.int (146000 : Int32), .int (yw x6), .int (yw v3)]) rfl ?_
      refine xZ.eqs (lv2 := [(4, .ref x1), (0, .ref v0), (1, .int (yw v1)), (2, .int (yw v2)), (3, .int (yw v3))]) (st2 := [.int (yw 146000), .int (yw x6), .int (yw v3)]) rfl (by simp only [yl_lit, yL_lit, yw_add, yw_sub, yw_mul, yw_neg, yl_add, yl_sub, yl_mul, cj_and, cj_or, cj_xor, cj_shl, cj_shr, cj_ushr, cj_div, cj_i2c, cj_i2b, cj_dc, ck_and, ck_or, ck_xor, ck_shl, ck_shr, ck_ushr, ck_i2l, ck_l2i, ck_cmp]) ?_
      refine xZ.calls (κ := oU) (av := [.int (yw v3), .int (yw x6), .int (yw 146000)]) (rest := []) (st' := fun _ => []) (me := xm82) hP_82 rfl rfl rfl (Nat.le_of_ble_eq_true rfl) (by decide) hP_22 (Nat.le_of_ble_eq_true rfl) (fun _ => rfl) (k_f_Calendarhall_needRange O f (d + 6) v3 x6 146000 M2) (fun _ M5 => ?_)
      exact xZ.sub (xsc (.tail _ (.head _)) (xsc (.tail _ (.tail _ (.tail _ (.head _)))) (xsc (.tail _ (.tail _ (.tail _ (.tail _ (.head _))))) (xsc (.head _) xsn)))) (show ([4, 0, 1, 2, 3] : List Nat).Nodup from by decide) (k_f_Calendarhall_setEnd_56 O f d v0 v2 v3 x1 M5)
def f_Rule_writePlace (O : Nat → Option va_E) (f : Nat) (v0 : Nat) (v1 : Nat) (M : xM) : Option (Unit × xM) :=
  (isO O M v1 1).bind fun _ =>
  xcl (f_StringBuilder_append_256 O f v1 1000000048 M) fun x1 M1 =>
  (gJ O M1 v0 9 4).bind fun x2 =>
  if yw x2 = yw (-1) then (
    (isO O M1 v1 1).bind fun _ =>
    xcl (f_StringBuilder_append_256 O f v1 1000000050 M1) fun x3 M2 =>
    some ((), M2)
  ) else
  (gJ O M1 v0 9 4).bind fun x4 =>
  if yw 0 ≤ yw x4 then (
    (gJ O M1 v0 9 1).bind fun x5 =>
    if yw x5 = yw 4 then (
      (gJ O M1 v0 9 4).bind fun x6 =>
      xcl (f_Reader_ordinal O f x6 M1) fun x7 M3 =>
      (isO O M3 v1 1).bind fun _ =>
      xcl (f_StringBuilder_append_256 O f v1 x7 M3) fun x8 M4 =>
      some ((), M4)
    ) else
    (gJ O M1 v0 9 4).bind fun x9 =>
    (isO O M1 v1 1).bind fun _ =>
    xcl (f_StringBuilder_append_285 O f v1 x9 M1) fun x10 M5 =>
    some ((), M5)
  ) else
  (isO O M1 v1 1).bind fun _ =>
  xcl (f_StringBuilder_append_256 O f v1 1000000052 M1) fun x11 M6 =>
  (gJ O M6 v0 9 4).bind fun x12 =>
  (isO O M6 v1 1).bind fun _ =>
  xcl (f_StringBuilder_append_285 O f v1 (-x12) M6) fun x13 M7 =>
  some ((), M7)
set_option maxRecDepth 20000 in
theorem k_f_Rule_writePlace (O : Nat → Option va_E) (f d : Nat) (v0 : Nat) (v1 : Nat) (M : xM) : xZ oU O (d + 7) 86 0 [(0, .ref v0), (1, .ref v1)] [] M (f_Rule_writePlace O f v0 v1 M) := by
  unfold f_Rule_writePlace
  refine xZ.adv (me := xm86) hP_86 2 (pc' := 3) (lv' := [(0, .ref v0), (1, .ref v1)]) (st' := [.ref 1000000048, .ref v1]) rfl ?_
  refine xZ.callv (κ := oR) (av := [.ref 1000000048]) (rest := []) (st' := fun x1 => [.ref x1]) (k0 := v1) (me := xm86) hP_86 rfl (Or.inl rfl) ⟨rfl, by decide⟩ rfl rfl (Nat.le_of_ble_eq_true rfl) (by decide) hP_256 (Nat.le_of_ble_eq_true rfl) (fun _ => rfl) (k_f_StringBuilder_append_256 O f (d + 0) v1 1000000048 M) (fun x1 M1 => ?_)
  refine xZ.adv (me := xm86) hP_86 2 (pc' := 8) (lv' := [(0, .ref v0), (1, .ref v1)]) (st' := [.ref v0]) rfl ?_
  refine xZ.k_gJ (me := xm86) hP_86 rfl (fun x2 => ?_)
  refine xZ.adv (me := xm86) hP_86 1 (pc' := 12) (lv' := [(0, .ref v0), (1, .ref v1)]) (st' := [.int (-1 : Int32), .int (yw x2)]) rfl ?_
  refine xZ.eqs (lv2 := [(0, .ref v0), (1, .ref v1)]) (st2 := [.int (yw (-1)), .int (yw x2)]) rfl (by simp only [yl_lit, yL_lit, yw_add, yw_sub, yw_mul, yw_neg, yl_add, yl_sub, yl_mul, cj_and, cj_or, cj_xor, cj_shl, cj_shr, cj_ushr, cj_div, cj_i2c, cj_i2b, cj_dc, ck_and, ck_or, ck_xor, ck_shl, ck_shr, ck_ushr, ck_i2l, ck_l2i, ck_cmp]) ?_
  refine xZ.jc_ne (me := xm86) hP_86 rfl (fun h1 => ?_) (fun h1 => ?_)
  · skip
    refine xZ.adv (me := xm86) hP_86 2 (pc' := 18) (lv' := [(0, .ref v0), (1, .ref v1)]) (st' := [.ref 1000000050, .ref v1]) rfl ?_
    refine xZ.callv (κ := oR) (av := [.ref 1000000050]) (rest := []) (st' := fun x3 => [.ref x3]) (k0 := v1) (me := xm86) hP_86 rfl (Or.inl rfl) ⟨rfl, by decide⟩ rfl rfl (Nat.le_of_ble_eq_true rfl) (by decide) hP_256 (Nat.le_of_ble_eq_true rfl) (fun _ => rfl) (k_f_StringBuilder_append_256 O f (d + 0) v1 1000000050 M1) (fun x3 M2 => ?_)
    refine xZ.adv (me := xm86) hP_86 2 (pc' := 84) (lv' := [(0, .ref v0), (1, .ref v1)]) (st' := []) rfl ?_
    exact xZ.retu (me := xm86) hP_86 rfl rfl
  · skip
    refine xZ.adv (me := xm86) hP_86 1 (pc' := 26) (lv' := [(0, .ref v0), (1, .ref v1)]) (st' := [.ref v0]) rfl ?_
    refine xZ.k_gJ (me := xm86) hP_86 rfl (fun x4 => ?_)
    refine xZ.jf_ge (me := xm86) hP_86 rfl (fun h2 => ?_) (fun h2 => ?_)
    · skip
      refine xZ.adv (me := xm86) hP_86 1 (pc' := 53) (lv' := [(0, .ref v0), (1, .ref v1)]) (st' := [.ref v0]) rfl ?_
      refine xZ.k_gJ (me := xm86) hP_86 rfl (fun x5 => ?_)
      refine xZ.adv (me := xm86) hP_86 1 (pc' := 57) (lv' := [(0, .ref v0), (1, .ref v1)]) (st' := [.int (4 : Int32), .int (yw x5)]) rfl ?_
      refine xZ.eqs (lv2 := [(0, .ref v0), (1, .ref v1)]) (st2 := [.int (yw 4), .int (yw x5)]) rfl (by simp only [yl_lit, yL_lit, yw_add, yw_sub, yw_mul, yw_neg, yl_add, yl_sub, yl_mul, cj_and, cj_or, cj_xor, cj_shl, cj_shr, cj_ushr, cj_div, cj_i2c, cj_i2b, cj_dc, ck_and, ck_or, ck_xor, ck_shl, ck_shr, ck_ushr, ck_i2l, ck_l2i, ck_cmp]) ?_
      refine xZ.jc_ne (me := xm86) hP_86 rfl (fun h3 => ?_) (fun h3 => ?_)
      · skip
        refine xZ.adv (me := xm86) hP_86 2 (pc' := 62) (lv' := [(0, .ref v0), (1, .ref v1)]) (st' := [.ref v0, .ref v1]) rfl ?_
        refine xZ.k_gJ (me := xm86) hP_86 rfl (fun x6 => ?_)
        refine xZ.calls (κ := oR) (av := [.int (yw x6)]) (rest := [.ref v1]) (st' := fun x7 => [.ref x7, .ref v1]) (me := xm86) hP_86 rfl rfl rfl (Nat.le_of_ble_eq_true rfl) (by decide) hP_75 (Nat.le_of_ble_eq_true rfl) (fun _ => rfl) (k_f_Reader_ordinal O f (d + 6) x6 M1) (fun x7 M3 => ?_)
        refine xZ.callv (κ := oR) (av := [.ref x7]) (rest := []) (st' := fun x8 => [.ref x8]) (k0 := v1) (me := xm86) hP_86 rfl (Or.inl rfl) ⟨rfl, by decide⟩ rfl rfl (Nat.le_of_ble_eq_true rfl) (by decide) hP_256 (Nat.le_of_ble_eq_true rfl) (fun _ => rfl) (k_f_StringBuilder_append_256 O f (d + 0) v1 x7 M3) (fun x8 M4 => ?_)
        refine xZ.adv (me := xm86) hP_86 2 (pc' := 84) (lv' := [(0, .ref v0), (1, .ref v1)]) (st' := []) rfl ?_
        exact xZ.retu (me := xm86) hP_86 rfl rfl
      · skip
        refine xZ.adv (me := xm86) hP_86 2 (pc' := 77) (lv' := [(0, .ref v0), (1, .ref v1)]) (st' := [.ref v0, .ref v1]) rfl ?_
        refine xZ.k_gJ (me := xm86) hP_86 rfl (fun x9 => ?_)
        refine xZ.callv (κ := oR) (av := [.int (yw x9)]) (rest := []) (st' := fun x10 => [.ref x10]) (k0 := v1) (me := xm86) hP_86 rfl (Or.inl rfl) ⟨rfl, by decide⟩ rfl rfl (Nat.le_of_ble_eq_true rfl) (by decide) hP_285 (Nat.le_of_ble_eq_true rfl) (fun _ => rfl) (k_f_StringBuilder_append_285 O f (d + 1) v1 x9 M1) (fun x10 M5 => ?_)
        refine xZ.adv (me := xm86) hP_86 1 (pc' := 84) (lv' := [(0, .ref v0), (1, .ref v1)]) (st' := []) rfl ?_
        exact xZ.retu (me := xm86) hP_86 rfl rfl
    · skip
      refine xZ.adv (me := xm86) hP_86 2 (pc' := 35) (lv' := [(0, .ref v0), (1, .ref v1)]) (st' := [.ref 1000000052, .ref v1]) rfl ?_
      refine xZ.callv (κ := oR) (av := [.ref 1000000052]) (rest := []) (st' := fun x11 => [.ref x11]) (k0 := v1) (me := xm86) hP_86 rfl (Or.inl rfl) ⟨rfl, by decide⟩ rfl rfl (Nat.le_of_ble_eq_true rfl) (by decide) hP_256 (Nat.le_of_ble_eq_true rfl) (fun _ => rfl) (k_f_StringBuilder_append_256 O f (d + 0) v1 1000000052 M1) (fun x11 M6 => ?_)
      refine xZ.adv (me := xm86) hP_86 3 (pc' := 41) (lv' := [(0, .ref v0), (1, .ref v1)]) (st' := [.ref v0, .ref v1]) rfl ?_
      refine xZ.k_gJ (me := xm86) hP_86 rfl (fun x12 => ?_)
      refine xZ.adv (me := xm86) hP_86 1 (pc' := 45) (lv' := [(0, .ref v0), (1, .ref v1)]) (st' := [.int (-(yw x12)), .ref v1]) rfl ?_
      refine xZ.eqs (lv2 := [(0, .ref v0), (1, .ref v1)]) (st2 := [.int (yw (-x12)), .ref v1]) rfl (by simp only [yl_lit, yL_lit, yw_add, yw_sub, yw_mul, yw_neg, yl_add, yl_sub, yl_mul, cj_and, cj_or, cj_xor, cj_shl, cj_shr, cj_ushr, cj_div, cj_i2c, cj_i2b, cj_dc, ck_and, ck_or, ck_xor, ck_shl, ck_shr, ck_ushr, ck_i2l, ck_l2i, ck_cmp]) ?_
      refine xZ.callv (κ := oR) (av := [.int (yw (-x12))]) (rest := []) (st' := fun x13 => [.ref x13]) (k0 := v1) (me := xm86) hP_86 rfl (Or.inl rfl) ⟨rfl, by decide⟩ rfl rfl (Nat.le_of_ble_eq_true rfl) (by decide) hP_285 (Nat.le_of_ble_eq_true rfl) (fun _ => rfl) (k_f_StringBuilder_append_285 O f (d + 1) v1 (-x12) M6) (fun x13 M7 => ?_)
      refine xZ.adv (me := xm86) hP_86 2 (pc' := 84) (lv' := [(0, .ref v0), (1, .ref v1)]) (st' := []) rfl ?_
      exact xZ.retu (me := xm86) hP_86 rfl rfl
def f_StringLatin1_canEncode (O : Nat → Option va_E) (f : Nat) (v0 : Int) (M : xM) : Option (Int × xM) :=
  if yw 255 < yw v0 then (
    some (0, M)
  ) else
  some (1, M)
set_option maxRecDepth 20000 in
theorem k_f_StringLatin1_canEncode (O : Nat → Option va_E) (f d : Nat) (v0 : Int) (M : xM) : xZ oJ O (d + 0) 301 0 [(0, .int (yw v0))] [] M (f_StringLatin1_canEncode O f v0 M) := by
  unfold f_StringLatin1_canEncode
  refine xZ.adv (me := xm301) hP_301 2 (pc' := 4) (lv' := [(0, .int (yw v0))]) (st' := [.int (255 : Int32), .int (yw v0)]) rfl ?_
  refine xZ.eqs (lv2 := [(0, .int (yw v0))]) (st2 := [.int (yw 255), .int (yw v0)]) rfl (by simp only [yl_lit, yL_lit, yw_add, yw_sub, yw_mul, yw_neg, yl_add, yl_sub, yl_mul, cj_and, cj_or, cj_xor, cj_shl, cj_shr, cj_ushr, cj_div, cj_i2c, cj_i2b, cj_dc, ck_and, ck_or, ck_xor, ck_shl, ck_shr, ck_ushr, ck_i2l, ck_l2i, ck_cmp]) ?_
  refine xZ.jc_gt (me := xm301) hP_301 rfl (fun h1 => ?_) (fun h1 => ?_)
  · skip
    refine xZ.adv (me := xm301) hP_301 1 (pc' := 12) (lv' := [(0, .int (yw v0))]) (st' := [.int (0 : Int32)]) rfl ?_
    refine xZ.eqs (lv2 := [(0, .int (yw v0))]) (st2 := [.int (yw 0)]) rfl (by simp only [yl_lit, yL_lit, yw_add, yw_sub, yw_mul, yw_neg, yl_add, yl_sub, yl_mul, cj_and, cj_or, cj_xor, cj_shl, cj_shr, cj_ushr, cj_div, cj_i2c, cj_i2b, cj_dc, ck_and, ck_or, ck_xor, ck_shl, ck_shr, ck_ushr, ck_i2l, ck_l2i, ck_cmp]) ?_
    exact xZ.jrete (me := xm301) hP_301 rfl rfl rfl
  · skip
    refine xZ.adv (me := xm301) hP_301 2 (pc' := 12) (lv' := [(0, .int (yw v0))]) (st' := [.int (1 : Int32)]) rfl ?_
    refine xZ.eqs (lv2 := [(0, .int (yw v0))]) (st2 := [.int (yw 1)]) rfl (by simp only [yl_lit, yL_lit, yw_add, yw_sub, yw_mul, yw_neg, yl_add, yl_sub, yl_mul, cj_and, cj_or, cj_xor, cj_shl, cj_shr, cj_ushr, cj_div, cj_i2c, cj_i2b, cj_dc, ck_and, ck_or, ck_xor, ck_shl, ck_shr, ck_ushr, ck_i2l, ck_l2i, ck_cmp]) ?_
    exact xZ.jrete (me := xm301) hP_301 rfl rfl rfl
def f_AbstractStringBuilder_append_300_56 (O : Nat → Option va_E) (f : Nat) (v0 : Nat) (v1 : Int) (M : xM) : Option (Nat × xM) :=
  (gR O M v0 1 0).bind fun x1 =>
  (gJ O M v0 1 3).bind fun x2 =>
  (pJ M v0 1 3 (x2 + 1)).bind fun M1 =>
  none
set_option maxRecDepth 20000 in
theorem k_f_AbstractStringBuilder_append_300_56 (O : Nat → Option va_E) (f d : Nat) (v0 : Nat) (v1 : Int) (M : xM) : xZ oR O (d + 4) 300 56 [(0, .ref v0), (1, .int (yw v1))] [] M (f_AbstractStringBuilder_append_300_56 O f v0 v1 M) := by
  unfold f_AbstractStringBuilder_append_300_56
  refine xZ.adv (me := xm300) hP_300 1 (pc' := 57) (lv' := [(0, .ref v0), (1, .int (yw v1))]) (st' := [.ref v0]) rfl ?_
  refine xZ.k_gR (me := xm300) hP_300 rfl (fun x1 => ?_)
  refine xZ.adv (me := xm300) hP_300 2 (pc' := 62) (lv' := [(0, .ref v0), (1, .int (yw v1))]) (st' := [.ref v0, .ref v0, .ref x1]) rfl ?_
  refine xZ.k_gJ (me := xm300) hP_300 rfl (fun x2 => ?_)
  refine xZ.adv (me := xm300) hP_300 3 (pc' := 68) (lv' := [(0, .ref v0), (1, .int (yw v1))]) (st' := [.int ((yw x2) + (1 : Int32)), .ref v0, .int (yw x2), .ref x1]) rfl ?_
  refine xZ.eqs (lv2 := [(0, .ref v0), (1, .int (yw v1))]) (st2 := [.int (yw (x2 + 1)), .ref v0, .int (yw x2), .ref x1]) rfl (by simp only [yl_lit, yL_lit, yw_add, yw_sub, yw_mul, yw_neg, yl_add, yl_sub, yl_mul, cj_and, cj_or, cj_xor, cj_shl, cj_shr, cj_ushr, cj_div, cj_i2c, cj_i2b, cj_dc, ck_and, ck_or, ck_xor, ck_shl, ck_shr, ck_ushr, ck_i2l, ck_l2i, ck_cmp]) ?_
  refine xZ.k_pJ (me := xm300) hP_300 rfl (fun M1 => ?_)
  refine xZ.adv (me := xm300) hP_300 1 (pc' := 72) (lv' := [(0, .ref v0), (1, .int (yw v1))]) (st' := [.int (yw v1), .int (yw x2), .ref x1]) rfl ?_
  exact xZ.no
def f_AbstractStringBuilder_append_300_45 (O : Nat → Option va_E) (f : Nat) (v0 : Nat) (v1 : Int) (M : xM) : Option (Nat × xM) :=
  (isO O M v0 1).bind fun _ =>
  xcl (f_AbstractStringBuilder_isLatin1 O f v0 M) fun x1 M1 =>
  if yw x1 = yw 0 then (
    f_AbstractStringBuilder_append_300_56 O f v0 v1 M1
  ) else
  (isO O M1 v0 1).bind fun _ =>
  xcl (f_AbstractStringBuilder_inflate O f v0 M1) fun _ M2 =>
  f_AbstractStringBuilder_append_300_56 O f v0 v1 M2
set_option maxRecDepth 20000 in
theorem k_f_AbstractStringBuilder_append_300_45 (O : Nat → Option va_E) (f d : Nat) (v0 : Nat) (v1 : Int) (M : xM) : xZ oR O (d + 4) 300 45 [(0, .ref v0), (1, .int (yw v1))] [] M (f_AbstractStringBuilder_append_300_45 O f v0 v1 M) := by
  unfold f_AbstractStringBuilder_append_300_45
  refine xZ.adv (me := xm300) hP_300 1 (pc' := 46) (lv' := [(0, .ref v0), (1, .int (yw v1))]) (st' := [.ref v0]) rfl ?_
  refine xZ.callv (κ := oJ) (av := []) (rest := []) (st' := fun x1 => [.int (yw x1)]) (k0 := v0) (me := xm300) hP_300 rfl (Or.inr (Or.inl rfl)) ⟨rfl, by decide⟩ rfl rfl (Nat.le_of_ble_eq_true rfl) (by decide) hP_264 (Nat.le_of_ble_eq_true rfl) (fun _ => rfl) (k_f_AbstractStringBuilder_isLatin1 O f (d + 3) v0 M) (fun x1 M1 => ?_)
  refine xZ.jf_eq (me := xm300) hP_300 rfl (fun h1 => ?_) (fun h1 => ?_)
  · skip
    exact (k_f_AbstractStringBuilder_append_300_56 O f d v0 v1 M1)
  · skip
    refine xZ.adv (me := xm300) hP_300 1 (pc' := 53) (lv' := [(0, .ref v0), (1, .int (yw v1))]) (st' := [.ref v0]) rfl ?_
    refine xZ.callv (κ := oU) (av := []) (rest := []) (st' := fun _ => []) (k0 := v0) (me := xm300) hP_300 rfl (Or.inr (Or.inl rfl)) ⟨rfl, by decide⟩ rfl rfl (Nat.le_of_ble_eq_true rfl) (by decide) hP_271 (Nat.le_of_ble_eq_true rfl) (fun _ => rfl) (k_f_AbstractStringBuilder_inflate O f (d + 2) v0 M1) (fun _ M2 => ?_)
    exact (k_f_AbstractStringBuilder_append_300_56 O f d v0 v1 M2)
def f_AbstractStringBuilder_append_300 (O : Nat → Option va_E) (f : Nat) (v0 : Nat) (v1 : Int) (M : xM) : Option (Nat × xM) :=
  (gJ O M v0 1 3).bind fun x1 =>
  (isO O M v0 1).bind fun _ =>
  xcl (f_AbstractStringBuilder_ensureCapacityInternal O f v0 (x1 + 1) M) fun _ M1 =>
  (isO O M1 v0 1).bind fun _ =>
  xcl (f_AbstractStringBuilder_isLatin1 O f v0 M1) fun x3 M2 =>
  if yw x3 = yw 0 then (
    f_AbstractStringBuilder_append_300_45 O f v0 v1 M2
  ) else
  xcl (f_StringLatin1_canEncode O f v1 M2) fun x4 M3 =>
  if yw x4 = yw 0 then (
    f_AbstractStringBuilder_append_300_45 O f v0 v1 M3
  ) else
  (gR O M3 v0 1 0).bind fun x5 =>
  (gJ O M3 v0 1 3).bind fun x6 =>
  (pJ M3 v0 1 3 (x6 + 1)).bind fun M4 =>
  (wJB M4 x5 x6 (ji2b v1)).bind fun M5 =>
  some (v0, M5)
set_option maxRecDepth 20000 in
theorem k_f_AbstractStringBuilder_append_300 (O : Nat → Option va_E) (f d : Nat) (v0 : Nat) (v1 : Int) (M : xM) : xZ oR O (d + 4) 300 0 [(0, .ref v0), (1, .int (yw v1))] [] M (f_AbstractStringBuilder_append_300 O f v0 v1 M) := by
  unfold f_AbstractStringBuilder_append_300
  refine xZ.adv (me := xm300) hP_300 2 (pc' := 2) (lv' := [(0, .ref v0), (1, .int (yw v1))]) (st' := [.ref v0, .ref v0]) rfl ?_
  refine xZ.k_gJ (me := xm300) hP_300 rfl (fun x1 => ?_)
  refine xZ.adv (me := xm300) hP_300 2 (pc' := 7) (lv' := [(0, .ref v0), (1, .int (yw v1))]) (st' := [.int ((yw x1) + (1 : Int32)), .ref v0]) rfl ?_
  refine xZ.eqs (lv2 := [(0, .ref v0), (1, .int (yw v1))]) (st2 := [.int (yw (x1 + 1)), .ref v0]) rfl (by simp only [yl_lit, yL_lit, yw_add, yw_sub, yw_mul, yw_neg, yl_add, yl_sub, yl_mul, cj_and, cj_or, cj_xor, cj_shl, cj_shr, cj_ushr, cj_div, cj_i2c, cj_i2b, cj_dc, ck_and, ck_or, ck_xor, ck_shl, ck_shr, ck_ushr, ck_i2l, ck_l2i, ck_cmp]) ?_
  refine xZ.callv (κ := oU) (av := [.int (yw (x1 + 1))]) (rest := []) (st' := fun _ => []) (k0 := v0) (me := xm300) hP_300 rfl (Or.inr (Or.inl rfl)) ⟨rfl, by decide⟩ rfl rfl (Nat.le_of_ble_eq_true rfl) (by decide) hP_259 (Nat.le_of_ble_eq_true rfl) (fun _ => rfl) (k_f_AbstractStringBuilder_ensureCapacityInternal O f (d + 0) v0 (x1 + 1) M) (fun _ M1 => ?_)
  refine xZ.adv (me := xm300) hP_300 1 (pc' := 11) (lv' := [(0, .ref v0), (1, .int (yw v1))]) (st' := [.ref v0]) rfl ?_
  refine xZ.callv (κ := oJ) (av := []) (rest := []) (st' := fun x3 => [.int (yw x3)]) (k0 := v0) (me := xm300) hP_300 rfl (Or.inr (Or.inl rfl)) ⟨rfl, by decide⟩ rfl rfl (Nat.le_of_ble_eq_true rfl) (by decide) hP_264 (Nat.le_of_ble_eq_true rfl) (fun _ => rfl) (k_f_AbstractStringBuilder_isLatin1 O f (d + 3) v0 M1) (fun x3 M2 => ?_)
  refine xZ.jf_eq (me := xm300) hP_300 rfl (fun h1 => ?_) (fun h1 => ?_)
  · skip
    exact (k_f_AbstractStringBuilder_append_300_45 O f d v0 v1 M2)
  · skip
    refine xZ.adv (me := xm300) hP_300 1 (pc' := 18) (lv' := [(0, .ref v0), (1, .int (yw v1))]) (st' := [.int (yw v1)]) rfl ?_
    refine xZ.calls (κ := oJ) (av := [.int (yw v1)]) (rest := []) (st' := fun x4 => [.int (yw x4)]) (me := xm300) hP_300 rfl rfl rfl (Nat.le_of_ble_eq_true rfl) (by decide) hP_301 (Nat.le_of_ble_eq_true rfl) (fun _ => rfl) (k_f_StringLatin1_canEncode O f (d + 3) v1 M2) (fun x4 M3 => ?_)
    refine xZ.jf_eq (me := xm300) hP_300 rfl (fun h2 => ?_) (fun h2 => ?_)
    · skip
      exact (k_f_AbstractStringBuilder_append_300_45 O f d v0 v1 M3)
    · skip
      refine xZ.adv (me := xm300) hP_300 1 (pc' := 25) (lv' := [(0, .ref v0), (1, .int (yw v1))]) (st' := [.ref v0]) rfl ?_
      refine xZ.k_gR (me := xm300) hP_300 rfl (fun x5 => ?_)
      refine xZ.adv (me := xm300) hP_300 2 (pc' := 30) (lv' := [(0, .ref v0), (1, .int (yw v1))]) (st' := [.ref v0, .ref v0, .ref x5]) rfl ?_
      refine xZ.k_gJ (me := xm300) hP_300 rfl (fun x6 => ?_)
      refine xZ.adv (me := xm300) hP_300 3 (pc' := 36) (lv' := [(0, .ref v0), (1, .int (yw v1))]) (st' := [.int ((yw x6) + (1 : Int32)), .ref v0, .int (yw x6), .ref x5]) rfl ?_
      refine xZ.eqs (lv2 := [(0, .ref v0), (1, .int (yw v1))]) (st2 := [.int (yw (x6 + 1)), .ref v0, .int (yw x6), .ref x5]) rfl (by simp only [yl_lit, yL_lit, yw_add, yw_sub, yw_mul, yw_neg, yl_add, yl_sub, yl_mul, cj_and, cj_or, cj_xor, cj_shl, cj_shr, cj_ushr, cj_div, cj_i2c, cj_i2b, cj_dc, ck_and, ck_or, ck_xor, ck_shl, ck_shr, ck_ushr, ck_i2l, ck_l2i, ck_cmp]) ?_
      refine xZ.k_pJ (me := xm300) hP_300 rfl (fun M4 => ?_)
      refine xZ.adv (me := xm300) hP_300 2 (pc' := 41) (lv' := [(0, .ref v0), (1, .int (yw v1))]) (st' := [.int ((Int32.toInt8 (yw v1)).toInt32), .int (yw x6), .ref x5]) rfl ?_
      refine xZ.eqs (lv2 := [(0, .ref v0), (1, .int (yw v1))]) (st2 := [.int (yw (ji2b v1)), .int (yw x6), .ref x5]) rfl (by simp only [yl_lit, yL_lit, yw_add, yw_sub, yw_mul, yw_neg, yl_add, yl_sub, yl_mul, cj_and, cj_or, cj_xor, cj_shl, cj_shr, cj_ushr, cj_div, cj_i2c, cj_i2b, cj_dc, ck_and, ck_or, ck_xor, ck_shl, ck_shr, ck_ushr, ck_i2l, ck_l2i, ck_cmp]) ?_
      refine xZ.k_wJB (me := xm300) hP_300 rfl (fun M5 => ?_)
      refine xZ.adv (me := xm300) hP_300 2 (pc' := 76) (lv' := [(0, .ref v0), (1, .int (yw v1))]) (st' := [.ref v0]) rfl ?_
      exact xZ.retr (me := xm300) hP_300 rfl rfl rfl
def f_StringBuilder_append_299 (O : Nat → Option va_E) (f : Nat) (v0 : Nat) (v1 : Int) (M : xM) : Option (Nat × xM) :=
  (isO O M v0 1).bind fun _ =>
  xcl (f_AbstractStringBuilder_append_300 O f v0 v1 M) fun x1 M1 =>
  some (v0, M1)
set_option maxRecDepth 20000 in
theorem k_f_StringBuilder_append_299 (O : Nat → Option va_E) (f d : Nat) (v0 : Nat) (v1 : Int) (M : xM) : xZ oR O (d + 5) 299 0 [(0, .ref v0), (1, .int (yw v1))] [] M (f_StringBuilder_append_299 O f v0 v1 M) := by
  unfold f_StringBuilder_append_299
  refine xZ.adv (me := xm299) hP_299 2 (pc' := 2) (lv' := [(0, .ref v0), (1, .int (yw v1))]) (st' := [.int (yw v1), .ref v0]) rfl ?_
  refine xZ.callu (κ := oR) (av := [.int (yw v1)]) (rest := []) (st' := fun x1 => [.ref x1]) (k0 := v0) (me := xm299) hP_299 rfl ⟨rfl, by decide⟩ rfl rfl (Nat.le_of_ble_eq_true rfl) (by decide) hP_300 (Nat.le_of_ble_eq_true rfl) (fun _ => rfl) (k_f_AbstractStringBuilder_append_300 O f (d + 0) v0 v1 M) (fun x1 M1 => ?_)
  refine xZ.adv (me := xm299) hP_299 2 (pc' := 7) (lv' := [(0, .ref v0), (1, .int (yw v1))]) (st' := [.ref v0]) rfl ?_
  exact xZ.retr (me := xm299) hP_299 rfl rfl rfl
