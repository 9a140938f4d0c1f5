/-! ===== texts ===== -/
def f_Calendarhall_personNumbered (O : Nat → Option va_E) (f : Nat) (v0 : Nat) (v1 : Int) (M : xM) : Option (Nat × xM) :=
  if yw v1 < yw 0 then (
    none
  ) else
  if yw v1 < yw 8 then (
    (gR O M v0 12 0).bind fun x1 =>
    (isO O M x1 4).bind fun _ =>
    xcl (f_Hall_anyPerson O f x1 v1 M) fun x2 M1 =>
    some (x2, M1)
  ) else
  none
set_option maxRecDepth 20000 in
theorem k_f_Calendarhall_personNumbered (O : Nat → Option va_E) (f d : Nat) (v0 : Nat) (v1 : Int) (M : xM) : xZ oR O (d + 1) 148 0 [(0, .ref v0), (1, .int (yw v1))] [] M (f_Calendarhall_personNumbered O f v0 v1 M) := by
  unfold f_Calendarhall_personNumbered
  refine xZ.adv (me := xm148) hP_148 1 (pc' := 1) (lv' := [(0, .ref v0), (1, .int (yw v1))]) (st' := [.int (yw v1)]) rfl ?_
  refine xZ.jf_lt (me := xm148) hP_148 rfl (fun h1 => ?_) (fun h1 => ?_)
  · skip
    exact xZ.no
  · skip
    refine xZ.adv (me := xm148) hP_148 2 (pc' := 7) (lv' := [(0, .ref v0), (1, .int (yw v1))]) (st' := [.int (8 : Int32), .int (yw v1)]) rfl ?_
    refine xZ.eqs (lv2 := [(0, .ref v0), (1, .int (yw v1))]) (st2 := [.int (yw 8), .int (yw v1)]) rfl (by simp only [yl_lit, yL_lit, yw_add, yw_sub, yw_mul, yw_neg, yl_add, yl_sub, yl_mul, cj_and, cj_or, cj_xor, cj_shl, cj_shr, cj_ushr, cj_div, cj_i2c, cj_i2b, cj_dc, ck_and, ck_or, ck_xor, ck_shl, ck_shr, ck_ushr, ck_i2l, ck_l2i, ck_cmp]) ?_
    refine xZ.jc_lt (me := xm148) hP_148 rfl (fun h2 => ?_) (fun h2 => ?_)
    · skip
      refine xZ.adv (me := xm148) hP_148 1 (pc' := 19) (lv' := [(0, .ref v0), (1, .int (yw v1))]) (st' := [.ref v0]) rfl ?_
      refine xZ.k_gR (me := xm148) hP_148 rfl (fun x1 => ?_)
      refine xZ.adv (me := xm148) hP_148 1 (pc' := 23) (lv' := [(0, .ref v0), (1, .int (yw v1))]) (st' := [.int (yw v1), .ref x1]) rfl ?_
      refine xZ.callv (κ := oR) (av := [.int (yw v1)]) (rest := []) (st' := fun x2 => [.ref x2]) (k0 := x1) (me := xm148) hP_148 rfl (Or.inl rfl) ⟨rfl, by decide⟩ rfl rfl (Nat.le_of_ble_eq_true rfl) (by decide) hP_26 (Nat.le_of_ble_eq_true rfl) (fun _ => rfl) (k_f_Hall_anyPerson O f (d + 0) x1 v1 M) (fun x2 M1 => ?_)
      exact xZ.retr (me := xm148) hP_148 rfl rfl rfl
    · skip
      exact xZ.no
def f_Series_isInvited (O : Nat → Option va_E) (f : Nat) (v0 : Nat) (v1 : Int) (M : xM) : Option (Int × xM) :=
  (gJ O M v0 10 4).bind fun x1 =>
  if yw (jand (jshr x1 (jand v1 31)) 1) = yw 1 then (
    some (1, M)
  ) else
  some (0, M)
set_option maxRecDepth 20000 in
theorem k_f_Series_isInvited (O : Nat → Option va_E) (f d : Nat) (v0 : Nat) (v1 : Int) (M : xM) : xZ oJ O (d + 0) 149 0 [(0, .ref v0), (1, .int (yw v1))] [] M (f_Series_isInvited O f v0 v1 M) := by
  unfold f_Series_isInvited
  refine xZ.adv (me := xm149) hP_149 1 (pc' := 1) (lv' := [(0, .ref v0), (1, .int (yw v1))]) (st' := [.ref v0]) rfl ?_
  refine xZ.k_gJ (me := xm149) hP_149 rfl (fun x1 => ?_)
  refine xZ.adv (me := xm149) hP_149 5 (pc' := 9) (lv' := [(0, .ref v0), (1, .int (yw v1))]) (st' := [.int (1 : Int32), .int (((yw x1) >>> ((yw v1) &&& 31)) &&& (1 : Int32))]) rfl ?_
  refine xZ.eqs (lv2 := [(0, .ref v0), (1, .int (yw v1))]) (st2 := [.int (yw 1), .int (yw (jand (jshr x1 (jand v1 31)) 1))]) rfl (by simp only [yl_lit, yL_lit, yw_add, yw_sub, yw_mul, yw_neg, yl_add, yl_sub, yl_mul, cj_and, cj_or, cj_xor, cj_shl, cj_shr, cj_ushr, cj_div, cj_i2c, cj_i2b, cj_dc, ck_and, ck_or, ck_xor, ck_shl, ck_shr, ck_ushr, ck_i2l, ck_l2i, ck_cmp]) ?_
  refine xZ.jc_ne (me := xm149) hP_149 rfl (fun h1 => ?_) (fun h1 => ?_)
  · skip
    refine xZ.adv (me := xm149) hP_149 2 (pc' := 17) (lv' := [(0, .ref v0), (1, .int (yw v1))]) (st' := [.int (1 : Int32)]) rfl ?_
    refine xZ.eqs (lv2 := [(0, .ref v0), (1, .int (yw v1))]) (st2 := [.int (yw 1)]) rfl (by simp only [yl_lit, yL_lit, yw_add, yw_sub, yw_mul, yw_neg, yl_add, yl_sub, yl_mul, cj_and, cj_or, cj_xor, cj_shl, cj_shr, cj_ushr, cj_div, cj_i2c, cj_i2b, cj_dc, ck_and, ck_or, ck_xor, ck_shl, ck_shr, ck_ushr, ck_i2l, ck_l2i, ck_cmp]) ?_
    exact xZ.jrete (me := xm149) hP_149 rfl rfl rfl
  · skip
    refine xZ.adv (me := xm149) hP_149 1 (pc' := 17) (lv' := [(0, .ref v0), (1, .int (yw v1))]) (st' := [.int (0 : Int32)]) rfl ?_
    refine xZ.eqs (lv2 := [(0, .ref v0), (1, .int (yw v1))]) (st2 := [.int (yw 0)]) rfl (by simp only [yl_lit, yL_lit, yw_add, yw_sub, yw_mul, yw_neg, yl_add, yl_sub, yl_mul, cj_and, cj_or, cj_xor, cj_shl, cj_shr, cj_ushr, cj_div, cj_i2c, cj_i2b, cj_dc, ck_and, ck_or, ck_xor, ck_shl, ck_shr, ck_ushr, ck_i2l, ck_l2i, ck_cmp]) ?_
    exact xZ.jrete (me := xm149) hP_149 rfl rfl rfl
def f_Series_answerBy (O : Nat → Option va_E) (f : Nat) (v0 : Nat) (v1 : Int) (M : xM) : Option (Int × xM) :=
  if yw v1 < yw 0 then (
    some (0, M)
  ) else
  (gR O M v0 10 10).bind fun x1 =>
  (aJN O M x1).bind fun x2 =>
  if yw x2 ≤ yw v1 then (
    some (0, M)
  ) else
  (gR O M v0 10 10).bind fun x3 =>
  (aJ O M x3 v1).bind fun x4 =>
  some (x4, M)
set_option maxRecDepth 20000 in
theorem k_f_Series_answerBy (O : Nat → Option va_E) (f d : Nat) (v0 : Nat) (v1 : Int) (M : xM) : xZ oJ O (d + 0) 150 0 [(0, .ref v0), (1, .int (yw v1))] [] M (f_Series_answerBy O f v0 v1 M) := by
  unfold f_Series_answerBy
  refine xZ.adv (me := xm150) hP_150 1 (pc' := 1) (lv' := [(0, .ref v0), (1, .int (yw v1))]) (st' := [.int (yw v1)]) rfl ?_
  refine xZ.jf_lt (me := xm150) hP_150 rfl (fun h1 => ?_) (fun h1 => ?_)
  · skip
    refine xZ.adv (me := xm150) hP_150 1 (pc' := 23) (lv' := [(0, .ref v0), (1, .int (yw v1))]) (st' := [.int (0 : Int32)]) rfl ?_
    refine xZ.eqs (lv2 := [(0, .ref v0), (1, .int (yw v1))]) (st2 := [.int (yw 0)]) rfl (by simp only [yl_lit, yL_lit, yw_add, yw_sub, yw_mul, yw_neg, yl_add, yl_sub, yl_mul, cj_and, cj_or, cj_xor, cj_shl, cj_shr, cj_ushr, cj_div, cj_i2c, cj_i2b, cj_dc, ck_and, ck_or, ck_xor, ck_shl, ck_shr, ck_ushr, ck_i2l, ck_l2i, ck_cmp]) ?_
    exact xZ.jreti (me := xm150) hP_150 rfl rfl
  · skip
    refine xZ.adv (me := xm150) hP_150 2 (pc' := 6) (lv' := [(0, .ref v0), (1, .int (yw v1))]) (st' := [.ref v0, .int (yw v1)]) rfl ?_
    refine xZ.k_gR (me := xm150) hP_150 rfl (fun x1 => ?_)
    refine xZ.k_aJN (me := xm150) hP_150 rfl (fun x2 => ?_)
    refine xZ.jc_ge (me := xm150) hP_150 rfl (fun h2 => ?_) (fun h2 => ?_)
    · skip
      refine xZ.adv (me := xm150) hP_150 1 (pc' := 23) (lv' := [(0, .ref v0), (1, .int (yw v1))]) (st' := [.int (0 : Int32)]) rfl ?_
      refine xZ.eqs (lv2 := [(0, .ref v0), (1, .int (yw v1))]) (st2 := [.int (yw 0)]) rfl (by simp only [yl_lit, yL_lit, yw_add, yw_sub, yw_mul, yw_neg, yl_add, yl_sub, yl_mul, cj_and, cj_or, cj_xor, cj_shl, cj_shr, cj_ushr, cj_div, cj_i2c, cj_i2b, cj_dc, ck_and, ck_or, ck_xor, ck_shl, ck_shr, ck_ushr, ck_i2l, ck_l2i, ck_cmp]) ?_
      exact xZ.jreti (me := xm150) hP_150 rfl rfl
    · skip
      refine xZ.adv (me := xm150) hP_150 1 (pc' := 14) (lv' := [(0, .ref v0), (1, .int (yw v1))]) (st' := [.ref v0]) rfl ?_
      refine xZ.k_gR (me := xm150) hP_150 rfl (fun x3 => ?_)
      refine xZ.adv (me := xm150) hP_150 1 (pc' := 18) (lv' := [(0, .ref v0), (1, .int (yw v1))]) (st' := [.int (yw v1), .ref x3]) rfl ?_
      refine xZ.k_aJ (me := xm150) hP_150 rfl (fun x4 => ?_)
      refine xZ.adv (me := xm150) hP_150 1 (pc' := 23) (lv' := [(0, .ref v0), (1, .int (yw v1))]) (st' := [.int (yw x4)]) rfl ?_
      exact xZ.jreti (me := xm150) hP_150 rfl rfl
def f_Calendarhall_answer (O : Nat → Option va_E) (f : Nat) (v0 : Nat) (v1 : Int) (v2 : Int) (v3 : Int) (M : xM) : Option (Int × xM) :=
  (isO O M v0 12).bind fun _ =>
  xcl (f_Calendarhall_seriesNumbered O f v0 v1 M) fun x1 M1 =>
  (isO O M1 v0 12).bind fun _ =>
  xcl (f_Calendarhall_personNumbered O f v0 v2 M1) fun x2 M2 =>
  (isO O M2 x1 10).bind fun _ =>
  xcl (f_Series_isInvited O f x1 v2 M2) fun x3 M3 =>
  if yw x3 = yw 0 then (
    none
  ) else
  xcl (f_Calendarhall_needRange O f v3 0 3 M3) fun _ M4 =>
  (isO O M4 x1 10).bind fun _ =>
  xcl (f_Series_answerBy O f x1 v2 M4) fun x5 M5 =>
  (isO O M5 v0 12).bind fun _ =>
  xcl (f_Calendarhall_saveForUndo O f v0 M5) fun _ M6 =>
  (isO O M6 x1 10).bind fun _ =>
  xcl (f_Series_putAnswer O f x1 v2 v3 M6) fun _ M7 =>
  some (x5, M7)
set_option maxRecDepth 20000 in
theorem k_f_Calendarhall_answer (O : Nat → Option va_E) (f d : Nat) (v0 : Nat) (v1 : Int) (v2 : Int) (v3 : Int) (M : xM) : xZ oJ O (d + 5) 147 0 [(0, .ref v0), (1, .int (yw v1)), (2, .int (yw v2)), (3, .int (yw v3))] [] M (f_Calendarhall_answer O f v0 v1 v2 v3 M) := by
  unfold f_Calendarhall_answer
  refine xZ.adv (me := xm147) hP_147 2 (pc' := 2) (lv' := [(0, .ref v0), (1, .int (yw v1)), (2, .int (yw v2)), (3, .int (yw v3))]) (st' := [.int (yw v1), .ref v0]) rfl ?_
  refine xZ.callv (κ := oR) (av := [.int (yw v1)]) (rest := []) (st' := fun x1 => [.ref x1]) (k0 := v0) (me := xm147) hP_147 rfl (Or.inl rfl) ⟨rfl, by decide⟩ rfl rfl (Nat.le_of_ble_eq_true rfl) (by decide) hP_79 (Nat.le_of_ble_eq_true rfl) (fun _ => rfl) (k_f_Calendarhall_seriesNumbered O f (d + 3) v0 v1 M) (fun x1 M1 => ?_)
  refine xZ.adv (me := xm147) hP_147 3 (pc' := 9) (lv' := [(4, .ref x1), (0, .ref v0), (1, .int (yw v1)), (2, .int (yw v2)), (3, .int (yw v3))]) (st' := [.int (yw v2), .ref v0]) rfl ?_
  refine xZ.callv (κ := oR) (av := [.int (yw v2)]) (rest := []) (st' := fun x2 => [.ref x2]) (k0 := v0) (me := xm147) hP_147 rfl (Or.inl rfl) ⟨rfl, by decide⟩ rfl rfl (Nat.le_of_ble_eq_true rfl) (by decide) hP_148 (Nat.le_of_ble_eq_true rfl) (fun _ => rfl) (k_f_Calendarhall_personNumbered O f (d + 3) v0 v2 M1) (fun x2 M2 => ?_)
  refine xZ.adv (me := xm147) hP_147 3 (pc' := 16) (lv' := [(4, .ref x1), (0, .ref v0), (1, .int (yw v1)), (2, .int (yw v2)), (3, .int (yw v3))]) (st' := [.int (yw v2), .ref x1]) rfl ?_
  refine xZ.callv (κ := oJ) (av := [.int (yw v2)]) (rest := []) (st' := fun x3 => [.int (yw x3)]) (k0 := x1) (me := xm147) hP_147 rfl (Or.inl rfl) ⟨rfl, by decide⟩ rfl rfl (Nat.le_of_ble_eq_true rfl) (by decide) hP_149 (Nat.le_of_ble_eq_true rfl) (fun _ => rfl) (k_f_Series_isInvited O f (d + 4) x1 v2 M2) (fun x3 M3 => ?_)
  refine xZ.jf_ne (me := xm147) hP_147 rfl (fun h1 => ?_) (fun h1 => ?_)
  · skip
    exact xZ.no
  · skip
    refine xZ.adv (me := xm147) hP_147 3 (pc' := 33) (lv' := [(4, .ref x1), (0, .ref v0), (1, .int (yw v1)), (2, .int (yw v2)), (3, .int (yw v3))]) (st' := [.int (3 : Int32), .int (0 : Int32), .int (yw v3)]) rfl ?_
    refine xZ.eqs (lv2 := [(4, .ref x1), (0, .ref v0), (1, .int (yw v1)), (2, .int (yw v2)), (3, .int (yw v3))]) (st2 := [.int (yw 3), .int (yw 0), .int (yw v3)]) rfl (by simp only [yl_lit, yL_lit, yw_add, yw_sub, yw_mul, yw_neg, yl_add, yl_sub, yl_mul, cj_and, cj_or, cj_xor, cj_shl, cj_shr, cj_ushr, cj_div, cj_i2c, cj_i2b, cj_dc, ck_and, ck_or, ck_xor, ck_shl, ck_shr, ck_ushr, ck_i2l, ck_l2i, ck_cmp]) ?_
    refine xZ.calls (κ := oU) (av := [.int (yw v3), .int (yw 0), .int (yw 3)]) (rest := []) (st' := fun _ => []) (me := xm147) hP_147 rfl rfl rfl (Nat.le_of_ble_eq_true rfl) (by decide) hP_22 (Nat.le_of_ble_eq_true rfl) (fun _ => rfl) (k_f_Calendarhall_needRange O f (d + 4) v3 0 3 M3) (fun _ M4 => ?_)
    refine xZ.adv (me := xm147) hP_147 2 (pc' := 39) (lv' := [(4, .ref x1), (0, .ref v0), (1, .int (yw v1)), (2, .int (yw v2)), (3, .int (yw v3))]) (st' := [.int (yw v2), .ref x1]) rfl ?_
    refine xZ.callv (κ := oJ) (av := [.int (yw v2)]) (rest := []) (st' := fun x5 => [.int (yw x5)]) (k0 := x1) (me := xm147) hP_147 rfl (Or.inl rfl) ⟨rfl, by decide⟩ rfl rfl (Nat.le_of_ble_eq_true rfl) (by decide) hP_150 (Nat.le_of_ble_eq_true rfl) (fun _ => rfl) (k_f_Series_answerBy O f (d + 4) x1 v2 M4) (fun x5 M5 => ?_)
    refine xZ.adv (me := xm147) hP_147 2 (pc' := 45) (lv' := [(5, .int (yw x5)), (4, .ref x1), (0, .ref v0), (1, .int (yw v1)), (2, .int (yw v2)), (3, .int (yw v3))]) (st' := [.ref v0]) rfl ?_
    refine xZ.callv (κ := oU) (av := []) (rest := []) (st' := fun _ => []) (k0 := v0) (me := xm147) hP_147 rfl (Or.inl rfl) ⟨rfl, by decide⟩ rfl rfl (Nat.le_of_ble_eq_true rfl) (by decide) hP_23 (Nat.le_of_ble_eq_true rfl) (fun _ => rfl) (k_f_Calendarhall_saveForUndo O f (d + 0) v0 M5) (fun _ M6 => ?_)
    refine xZ.adv (me := xm147) hP_147 3 (pc' := 52) (lv' := [(5, .int (yw x5)), (4, .ref x1), (0, .ref v0), (1, .int (yw v1)), (2, .int (yw v2)), (3, .int (yw v3))]) (st' := [.int (yw v3), .int (yw v2), .ref x1]) rfl ?_
    refine xZ.callv (κ := oU) (av := [.int (yw v2), .int (yw v3)]) (rest := []) (st' := fun _ => []) (k0 := x1) (me := xm147) hP_147 rfl (Or.inl rfl) ⟨rfl, by decide⟩ rfl rfl (Nat.le_of_ble_eq_true rfl) (by decide) hP_41 (Nat.le_of_ble_eq_true rfl) (fun _ => rfl) (k_f_Series_putAnswer O f (d + 4) x1 v2 v3 M6) (fun _ M7 => ?_)
    refine xZ.adv (me := xm147) hP_147 1 (pc' := 57) (lv' := [(5, .int (yw x5)), (4, .ref x1), (0, .ref v0), (1, .int (yw v1)), (2, .int (yw v2)), (3, .int (yw v3))]) (st' := [.int (yw x5)]) rfl ?_
    exact xZ.jreti (me := xm147) hP_147 rfl rfl
def f_Law_series_161 (O : Nat → Option va_E) (f : Nat) (K3 : Nat → Nat → Int → Int → Int → Int → xM → Option (Int × xM)) : Nat → Nat → Nat → Int → Int → Int → Int → Int → xM → Option (Int × xM)
  | 0, _, _, _, _, _, _, _, _ => none
  | n + 1, v0, v1, v2, v3, v4, v5, v6, M =>
    if yw v3 ≤ yw v6 then (
      (isO O M v1 15).bind fun _ =>
      xcl (f_LDraw_is O f v1 4 M) fun x1 M1 =>
      if yw x1 = yw 0 then (
        K3 v0 v1 v2 v3 v4 (v5 + 1) M1
      ) else
      (isO O M1 v0 12).bind fun _ =>
      xcl (f_Calendarhall_nextDay O f v0 v5 10 M1) fun x2 M2 =>
      (isO O M2 v1 15).bind fun _ =>
      xcl (f_LDraw_n O f v1 5 M2) fun x3 M3 =>
      (isO O M3 v1 15).bind fun _ =>
      xcl (f_LDraw_n O f v1 1440 M3) fun x4 M4 =>
      (isO O M4 v0 12).bind fun _ =>
      xcl (f_Calendarhall_move O f v0 v5 x2 (v4 + x3) x4 M4) fun x5 M5 =>
      K3 v0 v1 v2 v3 v4 (v5 + 1) M5
    ) else
    (isO O M v0 12).bind fun _ =>
    xcl (f_Calendarhall_seriesAt O f v0 v5 4 M) fun x6 M6 =>
    if yw (jand (jshr x6 (jand v6 31)) 1) = yw 1 then (
      (isO O M6 v1 15).bind fun _ =>
      xcl (f_LDraw_is O f v1 3 M6) fun x7 M7 =>
      if yw x7 = yw 0 then (
        f_Law_series_161 O f K3 n v0 v1 v2 v3 v4 v5 (v6 + 1) M7
      ) else
      (isO O M7 v1 15).bind fun _ =>
      xcl (f_LDraw_n O f v1 4 M7) fun x8 M8 =>
      (isO O M8 v0 12).bind fun _ =>
      xcl (f_Calendarhall_answer O f v0 v5 v6 x8 M8) fun x9 M9 =>
      f_Law_series_161 O f K3 n v0 v1 v2 v3 v4 v5 (v6 + 1) M9
    ) else
    f_Law_series_161 O f K3 n v0 v1 v2 v3 v4 v5 (v6 + 1) M6
set_option maxRecDepth 20000 in
theorem k_f_Law_series_161 (O : Nat → Option va_E) (f d : Nat) (K3 : Nat → Nat → Int → Int → Int → Int → xM → Option (Int × xM)) (hK3 : ∀ (v0 : Nat) (v1 : Nat) (v2 : Int) (v3 : Int) (v4 : Int) (v5 : Int) M, xZ oJ O (d + 8) 146 3 [(0, .ref v0), (1, .ref v1), (2, .int (yw v2)), (3, .int (yw v3)), (4, .int (yw v4)), (5, .int (yw v5))] [] M (K3 v0 v1 v2 v3 v4 v5 M)) : ∀ (n : Nat) (v0 : Nat) (v1 : Nat) (v2 : Int) (v3 : Int) (v4 : Int) (v5 : Int) (v6 : Int) (M : xM), xZ oJ O (d + 8) 146 161 [(0, .ref v0), (1, .ref v1), (2, .int (yw v2)), (3, .int (yw v3)), (4, .int (yw v4)), (5, .int (yw v5)), (6, .int (yw v6))] [] M (f_Law_series_161 O f K3 n v0 v1 v2 v3 v4 v5 v6 M) := by
  intro n
  induction n with
  | zero =>
    intro v0 v1 v2 v3 v4 v5 v6 M
    exact xZ.no
  | succ n ih =>
    intro v0 v1 v2 v3 v4 v5 v6 M
    unfold f_Law_series_161
    refine xZ.adv (me := xm146) hP_146 2 (pc' := 164) (lv' := [(0, .ref v0), (1, .ref v1), (2, .int (yw v2)), (3, .int (yw v3)), (4, .int (yw v4)), (5, .int (yw v5)), (6, .int (yw v6))]) (st' := [.int (yw v3), .int (yw v6)]) rfl ?_
    refine xZ.jc_ge (me := xm146) hP_146 rfl (fun h1 => ?_) (fun h1 => ?_)
    · skip
      refine xZ.adv (me := xm146) hP_146 2 (pc' := 213) (lv' := [(0, .ref v0), (1, .ref v1), (2, .int (yw v2)), (3, .int (yw v3)), (4, .int (yw v4)), (5, .int (yw v5)), (6, .int (yw v6))]) (st' := [.int (4 : Int32), .ref v1]) rfl ?_
      refine xZ.eqs (lv2 := [(0, .ref v0), (1, .ref v1), (2, .int (yw v2)), (3, .int (yw v3)), (4, .int (yw v4)), (5, .int (yw v5)), (6, .int (yw v6))]) (st2 := [.int (yw 4), .ref v1]) rfl (by simp only [yl_lit, yL_lit, yw_add, yw_sub, yw_mul, yw_neg, yl_add, yl_sub, yl_mul, cj_and, cj_or, cj_xor, cj_shl, cj_shr, cj_ushr, cj_div, cj_i2c, cj_i2b, cj_dc, ck_and, ck_or, ck_xor, ck_shl, ck_shr, ck_ushr, ck_i2l, ck_l2i, ck_cmp]) ?_
      refine xZ.callv (κ := oJ) (av := [.int (yw 4)]) (rest := []) (st' := fun x1 => [.int (yw x1)]) (k0 := v1) (me := xm146) hP_146 rfl (Or.inl rfl) ⟨rfl, by decide⟩ rfl rfl (Nat.le_of_ble_eq_true rfl) (by decide) hP_18 (Nat.le_of_ble_eq_true rfl) (fun _ => rfl) (k_f_LDraw_is O f (d + 6) v1 4 M) (fun x1 M1 => ?_)
      refine xZ.jf_eq (me := xm146) hP_146 rfl (fun h2 => ?_) (fun h2 => ?_)
      · skip
        refine xZ.adv (me := xm146) hP_146 2 (pc' := 3) (lv' := [(5, .int ((yw v5) + (1 : Int32))), (0, .ref v0), (1, .ref v1), (2, .int (yw v2)), (3, .int (yw v3)), (4, .int (yw v4)), (6, .int (yw v6))]) (st' := []) rfl ?_
        refine xZ.eqs (lv2 := [(5, .int (yw (v5 + 1))), (0, .ref v0), (1, .ref v1), (2, .int (yw v2)), (3, .int (yw v3)), (4, .int (yw v4)), (6, .int (yw v6))]) (st2 := []) (by simp only [yl_lit, yL_lit, yw_add, yw_sub, yw_mul, yw_neg, yl_add, yl_sub, yl_mul, cj_and, cj_or, cj_xor, cj_shl, cj_shr, cj_ushr, cj_div, cj_i2c, cj_i2b, cj_dc, ck_and, ck_or, ck_xor, ck_shl, ck_shr, ck_ushr, ck_i2l, ck_l2i, ck_cmp]) rfl ?_
        exact xZ.sub (xsc (.tail _ (.head _)) (xsc (.tail _ (.tail _ (.head _))) (xsc (.tail _ (.tail _ (.tail _ (.head _)))) (xsc (.tail _ (.tail _ (.tail _ (.tail _ (.head _))))) (xsc (.tail _ (.tail _ (.tail _ (.tail _ (.tail _ (.head _)))))) (xsc (.head _) xsn)))))) (show ([5, 0, 1, 2, 3, 4, 6] : List Nat).Nodup from by decide) (hK3 v0 v1 v2 v3 v4 (v5 + 1) M1)
      · skip
        refine xZ.adv (me := xm146) hP_146 5 (pc' := 227) (lv' := [(0, .ref v0), (1, .ref v1), (2, .int (yw v2)), (3, .int (yw v3)), (4, .int (yw v4)), (5, .int (yw v5)), (6, .int (yw v6))]) (st' := [.int (10 : Int32), .int (yw v5), .ref v0, .int (yw v5), .ref v0]) rfl ?_
        refine xZ.eqs (lv2 := [(0, .ref v0), (1, .ref v1), (2, .int (yw v2)), (3, .int (yw v3)), (4, .int (yw v4)), (5, .int (yw v5)), (6, .int (yw v6))]) (st2 := [.int (yw 10), .int (yw v5), .ref v0, .int (yw v5), .ref v0]) rfl (by simp only [yl_lit, yL_lit, yw_add, yw_sub, yw_mul, yw_neg, yl_add, yl_sub, yl_mul, cj_and, cj_or, cj_xor, cj_shl, cj_shr, cj_ushr, cj_div, cj_i2c, cj_i2b, cj_dc, ck_and, ck_or, ck_xor, ck_shl, ck_shr, ck_ushr, ck_i2l, ck_l2i, ck_cmp]) ?_
        refine xZ.callv (κ := oJ) (av := [.int (yw v5), .int (yw 10)]) (rest := [.int (yw v5), .ref v0]) (st' := fun x2 => [.int (yw x2), .int (yw v5), .ref v0]) (k0 := v0) (me := xm146) hP_146 rfl (Or.inl rfl) ⟨rfl, by decide⟩ rfl rfl (Nat.le_of_ble_eq_true rfl) (by decide) hP_91 (Nat.le_of_ble_eq_true rfl) (fun _ => rfl) (k_f_Calendarhall_nextDay O f (d + 2) v0 v5 10 M1) (fun x2 M2 => ?_)
        refine xZ.adv (me := xm146) hP_146 3 (pc' := 234) (lv' := [(0, .ref v0), (1, .ref v1), (2, .int (yw v2)), (3, .int (yw v3)), (4, .int (yw v4)), (5, .int (yw v5)), (6, .int (yw v6))]) (st' := [.int (5 : Int32), .ref v1, .int (yw v4), .int (yw x2), .int (yw v5), .ref v0]) rfl ?_
        refine xZ.eqs (lv2 := [(0, .ref v0), (1, .ref v1), (2, .int (yw v2)), (3, .int (yw v3)), (4, .int (yw v4)), (5, .int (yw v5)), (6, .int (yw v6))]) (st2 := [.int (yw 5), .ref v1, .int (yw v4), .int (yw x2), .int (yw v5), .ref v0]) rfl (by simp only [yl_lit, yL_lit, yw_add, yw_sub, yw_mul, yw_neg, yl_add, yl_sub, yl_mul, cj_and, cj_or, cj_xor, cj_shl, cj_shr, cj_ushr, cj_div, cj_i2c, cj_i2b, cj_dc, ck_and, ck_or, ck_xor, ck_shl, ck_shr, ck_ushr, ck_i2l, ck_l2i, ck_cmp]) ?_
        refine xZ.callv (κ := oJ) (av := [.int (yw 5)]) (rest := [.int (yw v4), .int (yw x2), .int (yw v5), .ref v0]) (st' := fun x3 => [.int (yw x3), .int (yw v4), .int (yw x2), .int (yw v5), .ref v0]) (k0 := v1) (me := xm146) hP_146 rfl (Or.inl rfl) ⟨rfl, by decide⟩ rfl rfl (Nat.le_of_ble_eq_true rfl) (by decide) hP_12 (Nat.le_of_ble_eq_true rfl) (fun _ => rfl) (k_f_LDraw_n O f (d + 7) v1 5 M2) (fun x3 M3 => ?_)
        refine xZ.adv (me := xm146) hP_146 3 (pc' := 242) (lv' := [(0, .ref v0), (1, .ref v1), (2, .int (yw v2)), (3, .int (yw v3)), (4, .int (yw v4)), (5, .int (yw v5)), (6, .int (yw v6))]) (st' := [.int (1440 : Int32), .ref v1, .int ((yw v4) + (yw x3)), .int (yw x2), .int (yw v5), .ref v0]) rfl ?_
        refine xZ.eqs (lv2 := [(0, .ref v0), (1, .ref v1), (2, .int (yw v2)), (3, .int (yw v3)), (4, .int (yw v4)), (5, .int (yw v5)), (6, .int (yw v6))]) (st2 := [.int (yw 1440), .ref v1, .int (yw (v4 + x3)), .int (yw x2), .int (yw v5), .ref v0]) rfl (by simp only [yl_lit, yL_lit, yw_add, yw_sub, yw_mul, yw_neg, yl_add, yl_sub, yl_mul, cj_and, cj_or, cj_xor, cj_shl, cj_shr, cj_ushr, cj_div, cj_i2c, cj_i2b, cj_dc, ck_and, ck_or, ck_xor, ck_shl, ck_shr, ck_ushr, ck_i2l, ck_l2i, ck_cmp]) ?_
        refine xZ.callv (κ := oJ) (av := [.int (yw 1440)]) (rest := [.int (yw (v4 + x3)), .int (yw x2), .int (yw v5), .ref v0]) (st' := fun x4 => [.int (yw x4), .int (yw (v4 + x3)), .int (yw x2), .int (yw v5), .ref v0]) (k0 := v1) (me := xm146) hP_146 rfl (Or.inl rfl) ⟨rfl, by decide⟩ rfl rfl (Nat.le_of_ble_eq_true rfl) (by decide) hP_12 (Nat.le_of_ble_eq_true rfl) (fun _ => rfl) (k_f_LDraw_n O f (d + 7) v1 1440 M3) (fun x4 M4 => ?_)
        refine xZ.callv (κ := oJ) (av := [.int (yw v5), .int (yw x2), .int (yw (v4 + x3)), .int (yw x4)]) (rest := []) (st' := fun x5 => [.int (yw x5)]) (k0 := v0) (me := xm146) hP_146 rfl (Or.inl rfl) ⟨rfl, by decide⟩ rfl rfl (Nat.le_of_ble_eq_true rfl) (by decide) hP_112 (Nat.le_of_ble_eq_true rfl) (fun _ => rfl) (k_f_Calendarhall_move O f (d + 2) v0 v5 x2 (v4 + x3) x4 M4) (fun x5 M5 => ?_)
        refine xZ.adv (me := xm146) hP_146 3 (pc' := 3) (lv' := [(5, .int ((yw v5) + (1 : Int32))), (0, .ref v0), (1, .ref v1), (2, .int (yw v2)), (3, .int (yw v3)), (4, .int (yw v4)), (6, .int (yw v6))]) (st' := []) rfl ?_
        refine xZ.eqs (lv2 := [(5, .int (yw (v5 + 1))), (0, .ref v0), (1, .ref v1), (2, .int (yw v2)), (3, .int (yw v3)), (4, .int (yw v4)), (6, .int (yw v6))]) (st2 := []) (by simp only [yl_lit, yL_lit, yw_add, yw_sub, yw_mul, yw_neg, yl_add, yl_sub, yl_mul, cj_and, cj_or, cj_xor, cj_shl, cj_shr, cj_ushr, cj_div, cj_i2c, cj_i2b, cj_dc, ck_and, ck_or, ck_xor, ck_shl, ck_shr, ck_ushr, ck_i2l, ck_l2i, ck_cmp]) rfl ?_
        exact xZ.sub (xsc (.tail _ (.head _)) (xsc (.tail _ (.tail _ (.head _))) (xsc (.tail _ (.tail _ (.tail _ (.head _)))) (xsc (.tail _ (.tail _ (.tail _ (.tail _ (.head _))))) (xsc (.tail _ (.tail _ (.tail _ (.tail _ (.tail _ (.head _)))))) (xsc (.head _) xsn)))))) (show ([5, 0, 1, 2, 3, 4, 6] : List Nat).Nodup from by decide) (hK3 v0 v1 v2 v3 v4 (v5 + 1) M5)
    · skip
      refine xZ.adv (me := xm146) hP_146 3 (pc' := 171) (lv' := [(0, .ref v0), (1, .ref v1), (2, .int (yw v2)), (3, .int (yw v3)), (4, .int (yw v4)), (5, .int (yw v5)), (6, .int (yw v6))]) (st' := [.int (4 : Int32), .int (yw v5), .ref v0]) rfl ?_
      refine xZ.eqs (lv2 := [(0, .ref v0), (1, .ref v1), (2, .int (yw v2)), (3, .int (yw v3)), (4, .int (yw v4)), (5, .int (yw v5)), (6, .int (yw v6))]) (st2 := [.int (yw 4), .int (yw v5), .ref v0]) rfl (by simp only [yl_lit, yL_lit, yw_add, yw_sub, yw_mul, yw_neg, yl_add, yl_sub, yl_mul, cj_and, cj_or, cj_xor, cj_shl, cj_shr, cj_ushr, cj_div, cj_i2c, cj_i2b, cj_dc, ck_and, ck_or, ck_xor, ck_shl, ck_shr, ck_ushr, ck_i2l, ck_l2i, ck_cmp]) ?_
      refine xZ.callv (κ := oJ) (av := [.int (yw v5), .int (yw 4)]) (rest := []) (st' := fun x6 => [.int (yw x6)]) (k0 := v0) (me := xm146) hP_146 rfl (Or.inl rfl) ⟨rfl, by decide⟩ rfl rfl (Nat.le_of_ble_eq_true rfl) (by decide) hP_126 (Nat.le_of_ble_eq_true rfl) (fun _ => rfl) (k_f_Calendarhall_seriesAt O f (d + 5) v0 v5 4 M) (fun x6 M6 => ?_)
      refine xZ.adv (me := xm146) hP_146 5 (pc' := 180) (lv' := [(0, .ref v0), (1, .ref v1), (2, .int (yw v2)), (3, .int (yw v3)), (4, .int (yw v4)), (5, .int (yw v5)), (6, .int (yw v6))]) (st' := [.int (1 : Int32), .int (((yw x6) >>> ((yw v6) &&& 31)) &&& (1 : Int32))]) rfl ?_
      refine xZ.eqs (lv2 := [(0, .ref v0), (1, .ref v1), (2, .int (yw v2)), (3, .int (yw v3)), (4, .int (yw v4)), (5, .int (yw v5)), (6, .int (yw v6))]) (st2 := [.int (yw 1), .int (yw (jand (jshr x6 (jand v6 31)) 1))]) rfl (by simp only [yl_lit, yL_lit, yw_add, yw_sub, yw_mul, yw_neg, yl_add, yl_sub, yl_mul, cj_and, cj_or, cj_xor, cj_shl, cj_shr, cj_ushr, cj_div, cj_i2c, cj_i2b, cj_dc, ck_and, ck_or, ck_xor, ck_shl, ck_shr, ck_ushr, ck_i2l, ck_l2i, ck_cmp]) ?_
      refine xZ.jc_ne (me := xm146) hP_146 rfl (fun h3 => ?_) (fun h3 => ?_)
      · skip
        refine xZ.adv (me := xm146) hP_146 2 (pc' := 185) (lv' := [(0, .ref v0), (1, .ref v1), (2, .int (yw v2)), (3, .int (yw v3)), (4, .int (yw v4)), (5, .int (yw v5)), (6, .int (yw v6))]) (st' := [.int (3 : Int32), .ref v1]) rfl ?_
        refine xZ.eqs (lv2 := [(0, .ref v0), (1, .ref v1), (2, .int (yw v2)), (3, .int (yw v3)), (4, .int (yw v4)), (5, .int (yw v5)), (6, .int (yw v6))]) (st2 := [.int (yw 3), .ref v1]) rfl (by simp only [yl_lit, yL_lit, yw_add, yw_sub, yw_mul, yw_neg, yl_add, yl_sub, yl_mul, cj_and, cj_or, cj_xor, cj_shl, cj_shr, cj_ushr, cj_div, cj_i2c, cj_i2b, cj_dc, ck_and, ck_or, ck_xor, ck_shl, ck_shr, ck_ushr, ck_i2l, ck_l2i, ck_cmp]) ?_
        refine xZ.callv (κ := oJ) (av := [.int (yw 3)]) (rest := []) (st' := fun x7 => [.int (yw x7)]) (k0 := v1) (me := xm146) hP_146 rfl (Or.inl rfl) ⟨rfl, by decide⟩ rfl rfl (Nat.le_of_ble_eq_true rfl) (by decide) hP_18 (Nat.le_of_ble_eq_true rfl) (fun _ => rfl) (k_f_LDraw_is O f (d + 6) v1 3 M6) (fun x7 M7 => ?_)
        refine xZ.jf_eq (me := xm146) hP_146 rfl (fun h4 => ?_) (fun h4 => ?_)
        · skip
          refine xZ.adv (me := xm146) hP_146 2 (pc' := 161) (lv' := [(6, .int ((yw v6) + (1 : Int32))), (0, .ref v0), (1, .ref v1), (2, .int (yw v2)), (3, .int (yw v3)), (4, .int (yw v4)), (5, .int (yw v5))]) (st' := []) rfl ?_
          refine xZ.eqs (lv2 := [(6, .int (yw (v6 + 1))), (0, .ref v0), (1, .ref v1), (2, .int (yw v2)), (3, .int (yw v3)), (4, .int (yw v4)), (5, .int (yw v5))]) (st2 := []) (by simp only [yl_lit, yL_lit, yw_add, yw_sub, yw_mul, yw_neg, yl_add, yl_sub, yl_mul, cj_and, cj_or, cj_xor, cj_shl, cj_shr, cj_ushr, cj_div, cj_i2c, cj_i2b, cj_dc, ck_and, ck_or, ck_xor, ck_shl, ck_shr, ck_ushr, ck_i2l, ck_l2i, ck_cmp]) rfl ?_
          exact xZ.sub (xsc (.tail _ (.head _)) (xsc (.tail _ (.tail _ (.head _))) (xsc (.tail _ (.tail _ (.tail _ (.head _)))) (xsc (.tail _ (.tail _ (.tail _ (.tail _ (.head _))))) (xsc (.tail _ (.tail _ (.tail _ (.tail _ (.tail _ (.head _)))))) (xsc (.tail _ (.tail _ (.tail _ (.tail _ (.tail _ (.tail _ (.head _))))))) (xsc (.head _) xsn))))))) (show ([6, 0, 1, 2, 3, 4, 5] : List Nat).Nodup from by decide) (ih v0 v1 v2 v3 v4 v5 (v6 + 1) M7)
        · skip
          refine xZ.adv (me := xm146) hP_146 5 (pc' := 198) (lv' := [(0, .ref v0), (1, .ref v1), (2, .int (yw v2)), (3, .int (yw v3)), (4, .int (yw v4)), (5, .int (yw v5)), (6, .int (yw v6))]) (st' := [.int (4 : Int32), .ref v1, .int (yw v6), .int (yw v5), .ref v0]) rfl ?_
          refine xZ.eqs (lv2 := [(0, .ref v0), (1, .ref v1), (2, .int (yw v2)), (3, .int (yw v3)), (4, .int (yw v4)), (5, .int (yw v5)), (6, .int (yw v6))]) (st2 := [.int (yw 4), .ref v1, .int (yw v6), .int (yw v5), .ref v0]) rfl (by simp only [yl_lit, yL_lit, yw_add, yw_sub, yw_mul, yw_neg, yl_add, yl_sub, yl_mul, cj_and, cj_or, cj_xor, cj_shl, cj_shr, cj_ushr, cj_div, cj_i2c, cj_i2b, cj_dc, ck_and, ck_or, ck_xor, ck_shl, ck_shr, ck_ushr, ck_i2l, ck_l2i, ck_cmp]) ?_
          refine xZ.callv (κ := oJ) (av := [.int (yw 4)]) (rest := [.int (yw v6), .int (yw v5), .ref v0]) (st' := fun x8 => [.int (yw x8), .int (yw v6), .int (yw v5), .ref v0]) (k0 := v1) (me := xm146) hP_146 rfl (Or.inl rfl) ⟨rfl, by decide⟩ rfl rfl (Nat.le_of_ble_eq_true rfl) (by decide) hP_12 (Nat.le_of_ble_eq_true rfl) (fun _ => rfl) (k_f_LDraw_n O f (d + 7) v1 4 M7) (fun x8 M8 => ?_)
          refine xZ.callv (κ := oJ) (av := [.int (yw v5), .int (yw v6), .int (yw x8)]) (rest := []) (st' := fun x9 => [.int (yw x9)]) (k0 := v0) (me := xm146) hP_146 rfl (Or.inl rfl) ⟨rfl, by decide⟩ rfl rfl (Nat.le_of_ble_eq_true rfl) (by decide) hP_147 (Nat.le_of_ble_eq_true rfl) (fun _ => rfl) (k_f_Calendarhall_answer O f (d + 2) v0 v5 v6 x8 M8) (fun x9 M9 => ?_)
          refine xZ.adv (me := xm146) hP_146 3 (pc' := 161) (lv' := [(6, .int ((yw v6) + (1 : Int32))), (0, .ref v0), (1, .ref v1), (2, .int (yw v2)), (3, .int (yw v3)), (4, .int (yw v4)), (5, .int (yw v5))]) (st' := []) rfl ?_
          refine xZ.eqs (lv2 := [(6, .int (yw (v6 + 1))), (0, .ref v0), (1, .ref v1), (2, .int (yw v2)), (3, .int (yw v3)), (4, .int (yw v4)), (5, .int (yw v5))]) (st2 := []) (by simp only [yl_lit, yL_lit, yw_add, yw_sub, yw_mul, yw_neg, yl_add, yl_sub, yl_mul, cj_and, cj_or, cj_xor, cj_shl, cj_shr, cj_ushr, cj_div, cj_i2c, cj_i2b, cj_dc, ck_and, ck_or, ck_xor, ck_shl, ck_shr, ck_ushr, ck_i2l, ck_l2i, ck_cmp]) rfl ?_
          exact xZ.sub (xsc (.tail _ (.head _)) (xsc (.tail _ (.tail _ (.head _))) (xsc (.tail _ (.tail _ (.tail _ (.head _)))) (xsc (.tail _ (.tail _ (.tail _ (.tail _ (.head _))))) (xsc (.tail _ (.tail _ (.tail _ (.tail _ (.tail _ (.head _)))))) (xsc (.tail _ (.tail _ (.tail _ (.tail _ (.tail _ (.tail _ (.head _))))))) (xsc (.head _) xsn))))))) (show ([6, 0, 1, 2, 3, 4, 5] : List Nat).Nodup from by decide) (ih v0 v1 v2 v3 v4 v5 (v6 + 1) M9)
      · skip
        refine xZ.adv (me := xm146) hP_146 2 (pc' := 161) (lv' := [(6, .int ((yw v6) + (1 : Int32))), (0, .ref v0), (1, .ref v1), (2, .int (yw v2)), (3, .int (yw v3)), (4, .int (yw v4)), (5, .int (yw v5))]) (st' := []) rfl ?_
        refine xZ.eqs (lv2 := [(6, .int (yw (v6 + 1))), (0, .ref v0), (1, .ref v1), (2, .int (yw v2)), (3, .int (yw v3)), (4, .int (yw v4)), (5, .int (yw v5))]) (st2 := []) (by simp only [yl_lit, yL_lit, yw_add, yw_sub, yw_mul, yw_neg, yl_add, yl_sub, yl_mul, cj_and, cj_or, cj_xor, cj_shl, cj_shr, cj_ushr, cj_div, cj_i2c, cj_i2b, cj_dc, ck_and, ck_or, ck_xor, ck_shl, ck_shr, ck_ushr, ck_i2l, ck_l2i, ck_cmp]) rfl ?_
        exact xZ.sub (xsc (.tail _ (.head _)) (xsc (.tail _ (.tail _ (.head _))) (xsc (.tail _ (.tail _ (.tail _ (.head _)))) (xsc (.tail _ (.tail _ (.tail _ (.tail _ (.head _))))) (xsc (.tail _ (.tail _ (.tail _ (.tail _ (.tail _ (.head _)))))) (xsc (.tail _ (.tail _ (.tail _ (.tail _ (.tail _ (.tail _ (.head _))))))) (xsc (.head _) xsn))))))) (show ([6, 0, 1, 2, 3, 4, 5] : List Nat).Nodup from by decide) (ih v0 v1 v2 v3 v4 v5 (v6 + 1) M6)
def f_Law_series_158 (O : Nat → Option va_E) (f : Nat) (K3 : Nat → Nat → Int → Int → Int → Int → xM → Option (Int × xM)) (v0 : Nat) (v1 : Nat) (v2 : Int) (v3 : Int) (v4 : Int) (v5 : Int) (M : xM) : Option (Int × xM) :=
  f_Law_series_161 O f K3 f v0 v1 v2 v3 v4 v5 0 M
set_option maxRecDepth 20000 in
theorem k_f_Law_series_158 (O : Nat → Option va_E) (f d : Nat) (K3 : Nat → Nat → Int → Int → Int → Int → xM → Option (Int × xM)) (hK3 : ∀ (v0 : Nat) (v1 : Nat) (v2 : Int) (v3 : Int) (v4 : Int) (v5 : Int) M, xZ oJ O (d + 8) 146 3 [(0, .ref v0), (1, .ref v1), (2, .int (yw v2)), (3, .int (yw v3)), (4, .int (yw v4)), (5, .int (yw v5))] [] M (K3 v0 v1 v2 v3 v4 v5 M)) (v0 : Nat) (v1 : Nat) (v2 : Int) (v3 : Int) (v4 : Int) (v5 : Int) (M : xM) : xZ oJ O (d + 8) 146 158 [(0, .ref v0), (1, .ref v1), (2, .int (yw v2)), (3, .int (yw v3)), (4, .int (yw v4)), (5, .int (yw v5))] [] M (f_Law_series_158 O f K3 v0 v1 v2 v3 v4 v5 M) := by
  unfold f_Law_series_158
  refine xZ.adv (me := xm146) hP_146 2 (pc' := 161) (lv' := [(6, .int (0 : Int32)), (0, .ref v0), (1, .ref v1), (2, .int (yw v2)), (3, .int (yw v3)), (4, .int (yw v4)), (5, .int (yw v5))]) (st' := []) rfl ?_
  refine xZ.eqs (lv2 := [(6, .int (yw 0)), (0, .ref v0), (1, .ref v1), (2, .int (yw v2)), (3, .int (yw v3)), (4, .int (yw v4)), (5, .int (yw v5))]) (st2 := []) (by simp only [yl_lit, yL_lit, yw_add, yw_sub, yw_mul, yw_neg, yl_add, yl_sub, yl_mul, cj_and, cj_or, cj_xor, cj_shl, cj_shr, cj_ushr, cj_div, cj_i2c, cj_i2b, cj_dc, ck_and, ck_or, ck_xor, ck_shl, ck_shr, ck_ushr, ck_i2l, ck_l2i, ck_cmp]) rfl ?_
  exact xZ.sub (xsc (.tail _ (.head _)) (xsc (.tail _ (.tail _ (.head _))) (xsc (.tail _ (.tail _ (.tail _ (.head _)))) (xsc (.tail _ (.tail _ (.tail _ (.tail _ (.head _))))) (xsc (.tail _ (.tail _ (.tail _ (.tail _ (.tail _ (.head _)))))) (xsc (.tail _ (.tail _ (.tail _ (.tail _ (.tail _ (.tail _ (.head _))))))) (xsc (.head _) xsn))))))) (show ([6, 0, 1, 2, 3, 4, 5] : List Nat).Nodup from by decide) (k_f_Law_series_161 O f d K3 hK3 f v0 v1 v2 v3 v4 v5 0 M)
def f_Law_series_135 (O : Nat → Option va_E) (f : Nat) (K3 : Nat → Nat → Int → Int → Int → Int → xM → Option (Int × xM)) (v0 : Nat) (v1 : Nat) (v2 : Int) (v3 : Int) (v4 : Int) (v5 : Int) (M : xM) : Option (Int × xM) :=
  (isO O M v1 15).bind fun _ =>
  xcl (f_LDraw_is O f v1 3 M) fun x1 M1 =>
  if yw x1 = yw 0 then (
    f_Law_series_158 O f K3 v0 v1 v2 v3 v4 v5 M1
  ) else
  (isO O M1 v1 15).bind fun _ =>
  xcl (f_LDraw_n O f v1 5 M1) fun x2 M2 =>
  (isO O M2 v0 12).bind fun _ =>
  xcl (f_Calendarhall_setEnd O f v0 v5 1 (1 + x2) M2) fun x3 M3 =>
  f_Law_series_158 O f K3 v0 v1 v2 v3 v4 v5 M3
set_option maxRecDepth 20000 in
theorem k_f_Law_series_135 (O : Nat → Option va_E) (f d : Nat) (K3 : Nat → Nat → Int → Int → Int → Int → xM → Option (Int × xM)) (hK3 : ∀ (v0 : Nat) (v1 : Nat) (v2 : Int) (v3 : Int) (v4 : Int) (v5 : Int) M, xZ oJ O (d + 8) 146 3 [(0, .ref v0), (1, .ref v1), (2, .int (yw v2)), (3, .int (yw v3)), (4, .int (yw v4)), (5, .int (yw v5))] [] M (K3 v0 v1 v2 v3 v4 v5 M)) (v0 : Nat) (v1 : Nat) (v2 : Int) (v3 : Int) (v4 : Int) (v5 : Int) (M : xM) : xZ oJ O (d + 8) 146 135 [(0, .ref v0), (1, .ref v1), (2, .int (yw v2)), (3, .int (yw v3)), (4, .int (yw v4)), (5, .int (yw v5))] [] M (f_Law_series_135 O f K3 v0 v1 v2 v3 v4 v5 M) := by
  unfold f_Law_series_135
  refine xZ.adv (me := xm146) hP_146 2 (pc' := 137) (lv' := [(0, .ref v0), (1, .ref v1), (2, .int (yw v2)), (3, .int (yw v3)), (4, .int (yw v4)), (5, .int (yw v5))]) (st' := [.int (3 : Int32), .ref v1]) rfl ?_
  refine xZ.eqs (lv2 := [(0, .ref v0), (1, .ref v1), (2, .int (yw v2)), (3, .int (yw v3)), (4, .int (yw v4)), (5, .int (yw v5))]) (st2 := [.int (yw 3), .ref v1]) rfl (by simp only [yl_lit, yL_lit, yw_add, yw_sub, yw_mul, yw_neg, yl_add, yl_sub, yl_mul, cj_and, cj_or, cj_xor, cj_shl, cj_shr, cj_ushr, cj_div, cj_i2c, cj_i2b, cj_dc, ck_and, ck_or, ck_xor, ck_shl, ck_shr, ck_ushr, ck_i2l, ck_l2i, ck_cmp]) ?_
  refine xZ.callv (κ := oJ) (av := [.int (yw 3)]) (rest := []) (st' := fun x1 => [.int (yw x1)]) (k0 := v1) (me := xm146) hP_146 rfl (Or.inl rfl) ⟨rfl, by decide⟩ rfl rfl (Nat.le_of_ble_eq_true rfl) (by decide) hP_18 (Nat.le_of_ble_eq_true rfl) (fun _ => rfl) (k_f_LDraw_is O f (d + 6) v1 3 M) (fun x1 M1 => ?_)
  refine xZ.jf_eq (me := xm146) hP_146 rfl (fun h1 => ?_) (fun h1 => ?_)
  · skip
    exact (k_f_Law_series_158 O f d K3 hK3 v0 v1 v2 v3 v4 v5 M1)
  · skip
    refine xZ.adv (me := xm146) hP_146 6 (pc' := 150) (lv' := [(0, .ref v0), (1, .ref v1), (2, .int (yw v2)), (3, .int (yw v3)), (4, .int (yw v4)), (5, .int (yw v5))]) (st' := [.int (5 : Int32), .ref v1, .int (1 : Int32), .int (1 : Int32), .int (yw v5), .ref v0]) rfl ?_
    refine xZ.eqs (lv2 := [(0, .ref v0), (1, .ref v1), (2, .int (yw v2)), (3, .int (yw v3)), (4, .int (yw v4)), (5, .int (yw v5))]) (st2 := [.int (yw 5), .ref v1, .int (yw 1), .int (yw 1), .int (yw v5), .ref v0]) rfl (by simp only [yl_lit, yL_lit, yw_add, yw_sub, yw_mul, yw_neg, yl_add, yl_sub, yl_mul, cj_and, cj_or, cj_xor, cj_shl, cj_shr, cj_ushr, cj_div, cj_i2c, cj_i2b, cj_dc, ck_and, ck_or, ck_xor, ck_shl, ck_shr, ck_ushr, ck_i2l, ck_l2i, ck_cmp]) ?_
    refine xZ.callv (κ := oJ) (av := [.int (yw 5)]) (rest := [.int (yw 1), .int (yw 1), .int (yw v5), .ref v0]) (st' := fun x2 => [.int (yw x2), .int (yw 1), .int (yw 1), .int (yw v5), .ref v0]) (k0 := v1) (me := xm146) hP_146 rfl (Or.inl rfl) ⟨rfl, by decide⟩ rfl rfl (Nat.le_of_ble_eq_true rfl) (by decide) hP_12 (Nat.le_of_ble_eq_true rfl) (fun _ => rfl) (k_f_LDraw_n O f (d + 7) v1 5 M1) (fun x2 M2 => ?_)
    refine xZ.adv (me := xm146) hP_146 1 (pc' := 154) (lv' := [(0, .ref v0), (1, .ref v1), (2, .int (yw v2)), (3, .int (yw v3)), (4, .int (yw v4)), (5, .int (yw v5))]) (st' := [.int ((yw 1) + (yw x2)), .int (yw 1), .int (yw v5), .ref v0]) rfl ?_
    refine xZ.eqs (lv2 := [(0, .ref v0), (1, .ref v1), (2, .int (yw v2)), (3, .int (yw v3)), (4, .int (yw v4)), (5, .int (yw v5))]) (st2 := [.int (yw (1 + x2)), .int (yw 1), .int (yw v5), .ref v0]) rfl (by simp only [yl_lit, yL_lit, yw_add, yw_sub, yw_mul, yw_neg, yl_add, yl_sub, yl_mul, cj_and, cj_or, cj_xor, cj_shl, cj_shr, cj_ushr, cj_div, cj_i2c, cj_i2b, cj_dc, ck_and, ck_or, ck_xor, ck_shl, ck_shr, ck_ushr, ck_i2l, ck_l2i, ck_cmp]) ?_
    refine xZ.callv (κ := oJ) (av := [.int (yw v5), .int (yw 1), .int (yw (1 + x2))]) (rest := []) (st' := fun x3 => [.int (yw x3)]) (k0 := v0) (me := xm146) hP_146 rfl (Or.inl rfl) ⟨rfl, by decide⟩ rfl rfl (Nat.le_of_ble_eq_true rfl) (by decide) hP_82 (Nat.le_of_ble_eq_true rfl) (fun _ => rfl) (k_f_Calendarhall_setEnd O f (d + 0) v0 v5 1 (1 + x2) M2) (fun x3 M3 => ?_)
    refine xZ.adv (me := xm146) hP_146 1 (pc' := 158) (lv' := [(0, .ref v0), (1, .ref v1), (2, .int (yw v2)), (3, .int (yw v3)), (4, .int (yw v4)), (5, .int (yw v5))]) (st' := []) rfl ?_
    exact (k_f_Law_series_158 O f d K3 hK3 v0 v1 v2 v3 v4 v5 M3)
def f_Law_series_106 (O : Nat → Option va_E) (f : Nat) (K3 : Nat → Nat → Int → Int → Int → Int → xM → Option (Int × xM)) (v0 : Nat) (v1 : Nat) (v2 : Int) (v3 : Int) (v4 : Int) (v5 : Int) (s0 : Nat) (s1 : Int) (s2 : Int) (s3 : Int) (s4 : Int) (s5 : Int) (s6 : Int) (M : xM) : Option (Int × xM) :=
  (isO O M s0 12).bind fun _ =>
  xcl (f_Calendarhall_addSeries O f s0 s1 s2 s3 s4 s5 s6 M) fun x1 M1 =>
  (isO O M1 v1 15).bind fun _ =>
  xcl (f_LDraw_is O f v1 2 M1) fun x2 M2 =>
  if yw x2 = yw 0 then (
    f_Law_series_135 O f K3 v0 v1 v2 v3 v4 v5 M2
  ) else
  (isO O M2 v1 15).bind fun _ =>
  xcl (f_LDraw_n O f v1 3 M2) fun x3 M3 =>
  (isO O M3 v0 12).bind fun _ =>
  xcl (f_Calendarhall_setRule O f v0 v5 1 (1 + x3) 0 0 M3) fun x4 M4 =>
  f_Law_series_135 O f K3 v0 v1 v2 v3 v4 v5 M4
set_option maxRecDepth 20000 in
theorem k_f_Law_series_106 (O : Nat → Option va_E) (f d : Nat) (K3 : Nat → Nat → Int → Int → Int → Int → xM → Option (Int × xM)) (hK3 : ∀ (v0 : Nat) (v1 : Nat) (v2 : Int) (v3 : Int) (v4 : Int) (v5 : Int) M, xZ oJ O (d + 8) 146 3 [(0, .ref v0), (1, .ref v1), (2, .int (yw v2)), (3, .int (yw v3)), (4, .int (yw v4)), (5, .int (yw v5))] [] M (K3 v0 v1 v2 v3 v4 v5 M)) (v0 : Nat) (v1 : Nat) (v2 : Int) (v3 : Int) (v4 : Int) (v5 : Int) (s0 : Nat) (s1 : Int) (s2 : Int) (s3 : Int) (s4 : Int) (s5 : Int) (s6 : Int) (M : xM) : xZ oJ O (d + 8) 146 106 [(0, .ref v0), (1, .ref v1), (2, .int (yw v2)), (3, .int (yw v3)), (4, .int (yw v4)), (5, .int (yw v5))] [.int (yw s6), .int (yw s5), .int (yw s4), .int (yw s3), .int (yw s2), .int (yw s1), .ref s0] M (f_Law_series_106 O f K3 v0 v1 v2 v3 v4 v5 s0 s1 s2 s3 s4 s5 s6 M) := by
  unfold f_Law_series_106
  refine xZ.callv (κ := oJ) (av := [.int (yw s1), .int (yw s2), .int (yw s3), .int (yw s4), .int (yw s5), .int (yw s6)]) (rest := []) (st' := fun x1 => [.int (yw x1)]) (k0 := s0) (me := xm146) hP_146 rfl (Or.inl rfl) ⟨rfl, by decide⟩ rfl rfl (Nat.le_of_ble_eq_true rfl) (by decide) hP_36 (Nat.le_of_ble_eq_true rfl) (fun _ => rfl) (k_f_Calendarhall_addSeries O f (d + 0) s0 s1 s2 s3 s4 s5 s6 M) (fun x1 M1 => ?_)
  refine xZ.adv (me := xm146) hP_146 3 (pc' := 112) (lv' := [(0, .ref v0), (1, .ref v1), (2, .int (yw v2)), (3, .int (yw v3)), (4, .int (yw v4)), (5, .int (yw v5))]) (st' := [.int (2 : Int32), .ref v1]) rfl ?_
  refine xZ.eqs (lv2 := [(0, .ref v0), (1, .ref v1), (2, .int (yw v2)), (3, .int (yw v3)), (4, .int (yw v4)), (5, .int (yw v5))]) (st2 := [.int (yw 2), .ref v1]) rfl (by simp only [yl_lit, yL_lit, yw_add, yw_sub, yw_mul, yw_neg, yl_add, yl_sub, yl_mul, cj_and, cj_or, cj_xor, cj_shl, cj_shr, cj_ushr, cj_div, cj_i2c, cj_i2b, cj_dc, ck_and, ck_or, ck_xor, ck_shl, ck_shr, ck_ushr, ck_i2l, ck_l2i, ck_cmp]) ?_
  refine xZ.callv (κ := oJ) (av := [.int (yw 2)]) (rest := []) (st' := fun x2 => [.int (yw x2)]) (k0 := v1) (me := xm146) hP_146 rfl (Or.inl rfl) ⟨rfl, by decide⟩ rfl rfl (Nat.le_of_ble_eq_true rfl) (by decide) hP_18 (Nat.le_of_ble_eq_true rfl) (fun _ => rfl) (k_f_LDraw_is O f (d + 6) v1 2 M1) (fun x2 M2 => ?_)
  refine xZ.jf_eq (me := xm146) hP_146 rfl (fun h1 => ?_) (fun h1 => ?_)
  · skip
    exact (k_f_Law_series_135 O f d K3 hK3 v0 v1 v2 v3 v4 v5 M2)
  · skip
    refine xZ.adv (me := xm146) hP_146 6 (pc' := 125) (lv' := [(0, .ref v0), (1, .ref v1), (2, .int (yw v2)), (3, .int (yw v3)), (4, .int (yw v4)), (5, .int (yw v5))]) (st' := [.int (3 : Int32), .ref v1, .int (1 : Int32), .int (1 : Int32), .int (yw v5), .ref v0]) rfl ?_
    refine xZ.eqs (lv2 := [(0, .ref v0), (1, .ref v1), (2, .int (yw v2)), (3, .int (yw v3)), (4, .int (yw v4)), (5, .int (yw v5))]) (st2 := [.int (yw 3), .ref v1, .int (yw 1), .int (yw 1), .int (yw v5), .ref v0]) rfl (by simp only [yl_lit, yL_lit, yw_add, yw_sub, yw_mul, yw_neg, yl_add, yl_sub, yl_mul, cj_and, cj_or, cj_xor, cj_shl, cj_shr, cj_ushr, cj_div, cj_i2c, cj_i2b, cj_dc, ck_and, ck_or, ck_xor, ck_shl, ck_shr, ck_ushr, ck_i2l, ck_l2i, ck_cmp]) ?_
    refine xZ.callv (κ := oJ) (av := [.int (yw 3)]) (rest := [.int (yw 1), .int (yw 1), .int (yw v5), .ref v0]) (st' := fun x3 => [.int (yw x3), .int (yw 1), .int (yw 1), .int (yw v5), .ref v0]) (k0 := v1) (me := xm146) hP_146 rfl (Or.inl rfl) ⟨rfl, by decide⟩ rfl rfl (Nat.le_of_ble_eq_true rfl) (by decide) hP_12 (Nat.le_of_ble_eq_true rfl) (fun _ => rfl) (k_f_LDraw_n O f (d + 7) v1 3 M2) (fun x3 M3 => ?_)
    refine xZ.adv (me := xm146) hP_146 3 (pc' := 131) (lv' := [(0, .ref v0), (1, .ref v1), (2, .int (yw v2)), (3, .int (yw v3)), (4, .int (yw v4)), (5, .int (yw v5))]) (st' := [.int (0 : Int32), .int (0 : Int32), .int ((yw 1) + (yw x3)), .int (yw 1), .int (yw v5), .ref v0]) rfl ?_
    refine xZ.eqs (lv2 := [(0, .ref v0), (1, .ref v1), (2, .int (yw v2)), (3, .int (yw v3)), (4, .int (yw v4)), (5, .int (yw v5))]) (st2 := [.int (yw 0), .int (yw 0), .int (yw (1 + x3)), .int (yw 1), .int (yw v5), .ref v0]) rfl (by simp only [yl_lit, yL_lit, yw_add, yw_sub, yw_mul, yw_neg, yl_add, yl_sub, yl_mul, cj_and, cj_or, cj_xor, cj_shl, cj_shr, cj_ushr, cj_div, cj_i2c, cj_i2b, cj_dc, ck_and, ck_or, ck_xor, ck_shl, ck_shr, ck_ushr, ck_i2l, ck_l2i, ck_cmp]) ?_
    refine xZ.callv (κ := oJ) (av := [.int (yw v5), .int (yw 1), .int (yw (1 + x3)), .int (yw 0), .int (yw 0)]) (rest := []) (st' := fun x4 => [.int (yw x4)]) (k0 := v0) (me := xm146) hP_146 rfl (Or.inl rfl) ⟨rfl, by decide⟩ rfl rfl (Nat.le_of_ble_eq_true rfl) (by decide) hP_80 (Nat.le_of_ble_eq_true rfl) (fun _ => rfl) (k_f_Calendarhall_setRule O f (d + 0) v0 v5 1 (1 + x3) 0 0 M3) (fun x4 M4 => ?_)
    refine xZ.adv (me := xm146) hP_146 1 (pc' := 135) (lv' := [(0, .ref v0), (1, .ref v1), (2, .int (yw v2)), (3, .int (yw v3)), (4, .int (yw v4)), (5, .int (yw v5))]) (st' := []) rfl ?_
    exact (k_f_Law_series_135 O f d K3 hK3 v0 v1 v2 v3 v4 v5 M4)
def f_Law_series_86 (O : Nat → Option va_E) (f : Nat) (K3 : Nat → Nat → Int → Int → Int → Int → xM → Option (Int × xM)) (v0 : Nat) (v1 : Nat) (v2 : Int) (v3 : Int) (v4 : Int) (v5 : Int) (s0 : Nat) (s1 : Int) (s2 : Int) (s3 : Int) (s4 : Int) (M : xM) : Option (Int × xM) :=
  (isO O M v1 15).bind fun _ =>
  xcl (f_LDraw_n O f v1 (jshl 1 (jand v3 31)) M) fun x1 M1 =>
  (isO O M1 v1 15).bind fun _ =>
  xcl (f_LDraw_is O f v1 3 M1) fun x2 M2 =>
  if yw x2 = yw 0 then (
    f_Law_series_106 O f K3 v0 v1 v2 v3 v4 v5 s0 s1 s2 s3 s4 x1 1 M2
  ) else
  f_Law_series_106 O f K3 v0 v1 v2 v3 v4 v5 s0 s1 s2 s3 s4 x1 0 M2
set_option maxRecDepth 20000 in
theorem k_f_Law_series_86 (O : Nat → Option va_E) (f d : Nat) (K3 : Nat → Nat → Int → Int → Int → Int → xM → Option (Int × xM)) (hK3 : ∀ (v0 : Nat) (v1 : Nat) (v2 : Int) (v3 : Int) (v4 : Int) (v5 : Int) M, xZ oJ O (d + 8) 146 3 [(0, .ref v0), (1, .ref v1), (2, .int (yw v2)), (3, .int (yw v3)), (4, .int (yw v4)), (5, .int (yw v5))] [] M (K3 v0 v1 v2 v3 v4 v5 M)) (v0 : Nat) (v1 : Nat) (v2 : Int) (v3 : Int) (v4 : Int) (v5 : Int) (s0 : Nat) (s1 : Int) (s2 : Int) (s3 : Int) (s4 : Int) (M : xM) : xZ oJ O (d + 8) 146 86 [(0, .ref v0), (1, .ref v1), (2, .int (yw v2)), (3, .int (yw v3)), (4, .int (yw v4)), (5, .int (yw v5))] [.int (yw s4), .int (yw s3), .int (yw s2), .int (yw s1), .ref s0] M (f_Law_series_86 O f K3 v0 v1 v2 v3 v4 v5 s0 s1 s2 s3 s4 M) := by
  unfold f_Law_series_86
  refine xZ.adv (me := xm146) hP_146 4 (pc' := 90) (lv' := [(0, .ref v0), (1, .ref v1), (2, .int (yw v2)), (3, .int (yw v3)), (4, .int (yw v4)), (5, .int (yw v5))]) (st' := [.int ((1 : Int32) <<< ((yw v3) &&& 31)), .ref v1, .int (yw s4), .int (yw s3), .int (yw s2), .int (yw s1), .ref s0]) rfl ?_
  refine xZ.eqs (lv2 := [(0, .ref v0), (1, .ref v1), (2, .int (yw v2)), (3, .int (yw v3)), (4, .int (yw v4)), (5, .int (yw v5))]) (st2 := [.int (yw (jshl 1 (jand v3 31))), .ref v1, .int (yw s4), .int (yw s3), .int (yw s2), .int (yw s1), .ref s0]) rfl (by simp only [yl_lit, yL_lit, yw_add, yw_sub, yw_mul, yw_neg, yl_add, yl_sub, yl_mul, cj_and, cj_or, cj_xor, cj_shl, cj_shr, cj_ushr, cj_div, cj_i2c, cj_i2b, cj_dc, ck_and, ck_or, ck_xor, ck_shl, ck_shr, ck_ushr, ck_i2l, ck_l2i, ck_cmp]) ?_
  refine xZ.callv (κ := oJ) (av := [.int (yw (jshl 1 (jand v3 31)))]) (rest := [.int (yw s4), .int (yw s3), .int (yw s2), .int (yw s1), .ref s0]) (st' := fun x1 => [.int (yw x1), .int (yw s4), .int (yw s3), .int (yw s2), .int (yw s1), .ref s0]) (k0 := v1) (me := xm146) hP_146 rfl (Or.inl rfl) ⟨rfl, by decide⟩ rfl rfl (Nat.le_of_ble_eq_true rfl) (by decide) hP_12 (Nat.le_of_ble_eq_true rfl) (fun _ => rfl) (k_f_LDraw_n O f (d + 7) v1 (jshl 1 (jand v3 31)) M) (fun x1 M1 => ?_)
  refine xZ.adv (me := xm146) hP_146 2 (pc' := 95) (lv' := [(0, .ref v0), (1, .ref v1), (2, .int (yw v2)), (3, .int (yw v3)), (4, .int (yw v4)), (5, .int (yw v5))]) (st' := [.int (3 : Int32), .ref v1, .int (yw x1), .int (yw s4), .int (yw s3), .int (yw s2), .int (yw s1), .ref s0]) rfl ?_
  refine xZ.eqs (lv2 := [(0, .ref v0), (1, .ref v1), (2, .int (yw v2)), (3, .int (yw v3)), (4, .int (yw v4)), (5, .int (yw v5))]) (st2 := [.int (yw 3), .ref v1, .int (yw x1), .int (yw s4), .int (yw s3), .int (yw s2), .int (yw s1), .ref s0]) rfl (by simp only [yl_lit, yL_lit, yw_add, yw_sub, yw_mul, yw_neg, yl_add, yl_sub, yl_mul, cj_and, cj_or, cj_xor, cj_shl, cj_shr, cj_ushr, cj_div, cj_i2c, cj_i2b, cj_dc, ck_and, ck_or, ck_xor, ck_shl, ck_shr, ck_ushr, ck_i2l, ck_l2i, ck_cmp]) ?_
  refine xZ.callv (κ := oJ) (av := [.int (yw 3)]) (rest := [.int (yw x1), .int (yw s4), .int (yw s3), .int (yw s2), .int (yw s1), .ref s0]) (st' := fun x2 => [.int (yw x2), .int (yw x1), .int (yw s4), .int (yw s3), .int (yw s2), .int (yw s1), .ref s0]) (k0 := v1) (me := xm146) hP_146 rfl (Or.inl rfl) ⟨rfl, by decide⟩ rfl rfl (Nat.le_of_ble_eq_true rfl) (by decide) hP_18 (Nat.le_of_ble_eq_true rfl) (fun _ => rfl) (k_f_LDraw_is O f (d + 6) v1 3 M1) (fun x2 M2 => ?_)
  refine xZ.jf_ne (me := xm146) hP_146 rfl (fun h1 => ?_) (fun h1 => ?_)
  · skip
    refine xZ.adv (me := xm146) hP_146 2 (pc' := 106) (lv' := [(0, .ref v0), (1, .ref v1), (2, .int (yw v2)), (3, .int (yw v3)), (4, .int (yw v4)), (5, .int (yw v5))]) (st' := [.int (1 : Int32), .int (yw x1), .int (yw s4), .int (yw s3), .int (yw s2), .int (yw s1), .ref s0]) rfl ?_
    refine xZ.eqs (lv2 := [(0, .ref v0), (1, .ref v1), (2, .int (yw v2)), (3, .int (yw v3)), (4, .int (yw v4)), (5, .int (yw v5))]) (st2 := [.int (yw 1), .int (yw x1), .int (yw s4), .int (yw s3), .int (yw s2), .int (yw s1), .ref s0]) rfl (by simp only [yl_lit, yL_lit, yw_add, yw_sub, yw_mul, yw_neg, yl_add, yl_sub, yl_mul, cj_and, cj_or, cj_xor, cj_shl, cj_shr, cj_ushr, cj_div, cj_i2c, cj_i2b, cj_dc, ck_and, ck_or, ck_xor, ck_shl, ck_shr, ck_ushr, ck_i2l, ck_l2i, ck_cmp]) ?_
    exact (k_f_Law_series_106 O f d K3 hK3 v0 v1 v2 v3 v4 v5 s0 s1 s2 s3 s4 x1 1 M2)
  · skip
    refine xZ.adv (me := xm146) hP_146 1 (pc' := 106) (lv' := [(0, .ref v0), (1, .ref v1), (2, .int (yw v2)), (3, .int (yw v3)), (4, .int (yw v4)), (5, .int (yw v5))]) (st' := [.int (0 : Int32), .int (yw x1), .int (yw s4), .int (yw s3), .int (yw s2), .int (yw s1), .ref s0]) rfl ?_
    refine xZ.eqs (lv2 := [(0, .ref v0), (1, .ref v1), (2, .int (yw v2)), (3, .int (yw v3)), (4, .int (yw v4)), (5, .int (yw v5))]) (st2 := [.int (yw 0), .int (yw x1), .int (yw s4), .int (yw s3), .int (yw s2), .int (yw s1), .ref s0]) rfl (by simp only [yl_lit, yL_lit, yw_add, yw_sub, yw_mul, yw_neg, yl_add, yl_sub, yl_mul, cj_and, cj_or, cj_xor, cj_shl, cj_shr, cj_ushr, cj_div, cj_i2c, cj_i2b, cj_dc, ck_and, ck_or, ck_xor, ck_shl, ck_shr, ck_ushr, ck_i2l, ck_l2i, ck_cmp]) ?_
    exact (k_f_Law_series_106 O f d K3 hK3 v0 v1 v2 v3 v4 v5 s0 s1 s2 s3 s4 x1 0 M2)
def f_Law_series_54 (O : Nat → Option va_E) (f : Nat) (K3 : Nat → Nat → Int → Int → Int → Int → xM → Option (Int × xM)) (v0 : Nat) (v1 : Nat) (v2 : Int) (v3 : Int) (v4 : Int) (v5 : Int) (s0 : Nat) (s1 : Int) (s2 : Int) (s3 : Int) (M : xM) : Option (Int × xM) :=
  (isO O M v1 15).bind fun _ =>
  xcl (f_LDraw_is O f v1 3 M) fun x1 M1 =>
  if yw x1 = yw 0 then (
    (isO O M1 v1 15).bind fun _ =>
    xcl (f_LDraw_n O f v1 8 M1) fun x2 M2 =>
    f_Law_series_86 O f K3 v0 v1 v2 v3 v4 v5 s0 s1 s2 s3 (30 + (15 * x2)) M2
  ) else
  (isO O M1 v1 15).bind fun _ =>
  xcl (f_LDraw_n O f v1 600 M1) fun x3 M3 =>
  f_Law_series_86 O f K3 v0 v1 v2 v3 v4 v5 s0 s1 s2 s3 (1 + x3) M3
set_option maxRecDepth 20000 in
theorem k_f_Law_series_54 (O : Nat → Option va_E) (f d : Nat) (K3 : Nat → Nat → Int → Int → Int → Int → xM → Option (Int × xM)) (hK3 : ∀ (v0 : Nat) (v1 : Nat) (v2 : Int) (v3 : Int) (v4 : Int) (v5 : Int) M, xZ oJ O (d + 8) 146 3 [(0, .ref v0), (1, .ref v1), (2, .int (yw v2)), (3, .int (yw v3)), (4, .int (yw v4)), (5, .int (yw v5))] [] M (K3 v0 v1 v2 v3 v4 v5 M)) (v0 : Nat) (v1 : Nat) (v2 : Int) (v3 : Int) (v4 : Int) (v5 : Int) (s0 : Nat) (s1 : Int) (s2 : Int) (s3 : Int) (M : xM) : xZ oJ O (d + 8) 146 54 [(0, .ref v0), (1, .ref v1), (2, .int (yw v2)), (3, .int (yw v3)), (4, .int (yw v4)), (5, .int (yw v5))] [.int (yw s3), .int (yw s2), .int (yw s1), .ref s0] M (f_Law_series_54 O f K3 v0 v1 v2 v3 v4 v5 s0 s1 s2 s3 M) := by
  unfold f_Law_series_54
  refine xZ.adv (me := xm146) hP_146 2 (pc' := 56) (lv' := [(0, .ref v0), (1, .ref v1), (2, .int (yw v2)), (3, .int (yw v3)), (4, .int (yw v4)), (5, .int (yw v5))]) (st' := [.int (3 : Int32), .ref v1, .int (yw s3), .int (yw s2), .int (yw s1), .ref s0]) rfl ?_
  refine xZ.eqs (lv2 := [(0, .ref v0), (1, .ref v1), (2, .int (yw v2)), (3, .int (yw v3)), (4, .int (yw v4)), (5, .int (yw v5))]) (st2 := [.int (yw 3), .ref v1, .int (yw s3), .int (yw s2), .int (yw s1), .ref s0]) rfl (by simp only [yl_lit, yL_lit, yw_add, yw_sub, yw_mul, yw_neg, yl_add, yl_sub, yl_mul, cj_and, cj_or, cj_xor, cj_shl, cj_shr, cj_ushr, cj_div, cj_i2c, cj_i2b, cj_dc, ck_and, ck_or, ck_xor, ck_shl, ck_shr, ck_ushr, ck_i2l, ck_l2i, ck_cmp]) ?_
  refine xZ.callv (κ := oJ) (av := [.int (yw 3)]) (rest := [.int (yw s3), .int (yw s2), .int (yw s1), .ref s0]) (st' := fun x1 => [.int (yw x1), .int (yw s3), .int (yw s2), .int (yw s1), .ref s0]) (k0 := v1) (me := xm146) hP_146 rfl (Or.inl rfl) ⟨rfl, by decide⟩ rfl rfl (Nat.le_of_ble_eq_true rfl) (by decide) hP_18 (Nat.le_of_ble_eq_true rfl) (fun _ => rfl) (k_f_LDraw_is O f (d + 6) v1 3 M) (fun x1 M1 => ?_)
  refine xZ.jf_eq (me := xm146) hP_146 rfl (fun h1 => ?_) (fun h1 => ?_)
  · skip
    refine xZ.adv (me := xm146) hP_146 4 (pc' := 81) (lv' := [(0, .ref v0), (1, .ref v1), (2, .int (yw v2)), (3, .int (yw v3)), (4, .int (yw v4)), (5, .int (yw v5))]) (st' := [.int (8 : Int32), .ref v1, .int (15 : Int32), .int (30 : Int32), .int (yw s3), .int (yw s2), .int (yw s1), .ref s0]) rfl ?_
    refine xZ.eqs (lv2 := [(0, .ref v0), (1, .ref v1), (2, .int (yw v2)), (3, .int (yw v3)), (4, .int (yw v4)), (5, .int (yw v5))]) (st2 := [.int (yw 8), .ref v1, .int (yw 15), .int (yw 30), .int (yw s3), .int (yw s2), .int (yw s1), .ref s0]) rfl (by simp only [yl_lit, yL_lit, yw_add, yw_sub, yw_mul, yw_neg, yl_add, yl_sub, yl_mul, cj_and, cj_or, cj_xor, cj_shl, cj_shr, cj_ushr, cj_div, cj_i2c, cj_i2b, cj_dc, ck_and, ck_or, ck_xor, ck_shl, ck_shr, ck_ushr, ck_i2l, ck_l2i, ck_cmp]) ?_
    refine xZ.callv (κ := oJ) (av := [.int (yw 8)]) (rest := [.int (yw 15), .int (yw 30), .int (yw s3), .int (yw s2), .int (yw s1), .ref s0]) (st' := fun x2 => [.int (yw x2), .int (yw 15), .int (yw 30), .int (yw s3), .int (yw s2), .int (yw s1), .ref s0]) (k0 := v1) (me := xm146) hP_146 rfl (Or.inl rfl) ⟨rfl, by decide⟩ rfl rfl (Nat.le_of_ble_eq_true rfl) (by decide) hP_12 (Nat.le_of_ble_eq_true rfl) (fun _ => rfl) (k_f_LDraw_n O f (d + 7) v1 8 M1) (fun x2 M2 => ?_)
    refine xZ.adv (me := xm146) hP_146 2 (pc' := 86) (lv' := [(0, .ref v0), (1, .ref v1), (2, .int (yw v2)), (3, .int (yw v3)), (4, .int (yw v4)), (5, .int (yw v5))]) (st' := [.int ((yw 30) + ((yw 15) * (yw x2))), .int (yw s3), .int (yw s2), .int (yw s1), .ref s0]) rfl ?_
    refine xZ.eqs (lv2 := [(0, .ref v0), (1, .ref v1), (2, .int (yw v2)), (3, .int (yw v3)), (4, .int (yw v4)), (5, .int (yw v5))]) (st2 := [.int (yw (30 + (15 * x2))), .int (yw s3), .int (yw s2), .int (yw s1), .ref s0]) rfl (by simp only [yl_lit, yL_lit, yw_add, yw_sub, yw_mul, yw_neg, yl_add, yl_sub, yl_mul, cj_and, cj_or, cj_xor, cj_shl, cj_shr, cj_ushr, cj_div, cj_i2c, cj_i2b, cj_dc, ck_and, ck_or, ck_xor, ck_shl, ck_shr, ck_ushr, ck_i2l, ck_l2i, ck_cmp]) ?_
    exact (k_f_Law_series_86 O f d K3 hK3 v0 v1 v2 v3 v4 v5 s0 s1 s2 s3 (30 + (15 * x2)) M2)
  · skip
    refine xZ.adv (me := xm146) hP_146 3 (pc' := 67) (lv' := [(0, .ref v0), (1, .ref v1), (2, .int (yw v2)), (3, .int (yw v3)), (4, .int (yw v4)), (5, .int (yw v5))]) (st' := [.int (600 : Int32), .ref v1, .int (1 : Int32), .int (yw s3), .int (yw s2), .int (yw s1), .ref s0]) rfl ?_
    refine xZ.eqs (lv2 := [(0, .ref v0), (1, .ref v1), (2, .int (yw v2)), (3, .int (yw v3)), (4, .int (yw v4)), (5, .int (yw v5))]) (st2 := [.int (yw 600), .ref v1, .int (yw 1), .int (yw s3), .int (yw s2), .int (yw s1), .ref s0]) rfl (by simp only [yl_lit, yL_lit, yw_add, yw_sub, yw_mul, yw_neg, yl_add, yl_sub, yl_mul, cj_and, cj_or, cj_xor, cj_shl, cj_shr, cj_ushr, cj_div, cj_i2c, cj_i2b, cj_dc, ck_and, ck_or, ck_xor, ck_shl, ck_shr, ck_ushr, ck_i2l, ck_l2i, ck_cmp]) ?_
    refine xZ.callv (κ := oJ) (av := [.int (yw 600)]) (rest := [.int (yw 1), .int (yw s3), .int (yw s2), .int (yw s1), .ref s0]) (st' := fun x3 => [.int (yw x3), .int (yw 1), .int (yw s3), .int (yw s2), .int (yw s1), .ref s0]) (k0 := v1) (me := xm146) hP_146 rfl (Or.inl rfl) ⟨rfl, by decide⟩ rfl rfl (Nat.le_of_ble_eq_true rfl) (by decide) hP_12 (Nat.le_of_ble_eq_true rfl) (fun _ => rfl) (k_f_LDraw_n O f (d + 7) v1 600 M1) (fun x3 M3 => ?_)
    refine xZ.adv (me := xm146) hP_146 2 (pc' := 86) (lv' := [(0, .ref v0), (1, .ref v1), (2, .int (yw v2)), (3, .int (yw v3)), (4, .int (yw v4)), (5, .int (yw v5))]) (st' := [.int ((yw 1) + (yw x3)), .int (yw s3), .int (yw s2), .int (yw s1), .ref s0]) rfl ?_
    refine xZ.eqs (lv2 := [(0, .ref v0), (1, .ref v1), (2, .int (yw v2)), (3, .int (yw v3)), (4, .int (yw v4)), (5, .int (yw v5))]) (st2 := [.int (yw (1 + x3)), .int (yw s3), .int (yw s2), .int (yw s1), .ref s0]) rfl (by simp only [yl_lit, yL_lit, yw_add, yw_sub, yw_mul, yw_neg, yl_add, yl_sub, yl_mul, cj_and, cj_or, cj_xor, cj_shl, cj_shr, cj_ushr, cj_div, cj_i2c, cj_i2b, cj_dc, ck_and, ck_or, ck_xor, ck_shl, ck_shr, ck_ushr, ck_i2l, ck_l2i, ck_cmp]) ?_
    exact (k_f_Law_series_86 O f d K3 hK3 v0 v1 v2 v3 v4 v5 s0 s1 s2 s3 (1 + x3) M3)
def f_Law_series_3 (O : Nat → Option va_E) (f : Nat) : Nat → Nat → Nat → Int → Int → Int → Int → xM → Option (Int × xM)
  | 0, _, _, _, _, _, _, _ => none
  | n + 1, v0, v1, v2, v3, v4, v5, M =>
    if yw v2 ≤ yw v5 then (
      some (v2, M)
    ) else
    (isO O M v1 15).bind fun _ =>
    xcl (f_LDraw_n O f v1 3 M) fun x1 M1 =>
    (isO O M1 v1 15).bind fun _ =>
    xcl (f_LDraw_n O f v1 4 M1) fun x2 M2 =>
    (isO O M2 v1 15).bind fun _ =>
    xcl (f_LDraw_is O f v1 3 M2) fun x3 M3 =>
    if yw x3 = yw 0 then (
      (isO O M3 v1 15).bind fun _ =>
      xcl (f_LDraw_n O f v1 18 M3) fun x4 M4 =>
      f_Law_series_54 O f (f_Law_series_3 O f n) v0 v1 v2 v3 v4 v5 v0 x1 (v4 + x2) (480 + (30 * x4)) M4
    ) else
    (isO O M3 v1 15).bind fun _ =>
    xcl (f_LDraw_n O f v1 1440 M3) fun x5 M5 =>
    f_Law_series_54 O f (f_Law_series_3 O f n) v0 v1 v2 v3 v4 v5 v0 x1 (v4 + x2) x5 M5
set_option maxRecDepth 20000 in
theorem k_f_Law_series_3 (O : Nat → Option va_E) (f d : Nat) : ∀ (n : Nat) (v0 : Nat) (v1 : Nat) (v2 : Int) (v3 : Int) (v4 : Int) (v5 : Int) (M : xM), xZ oJ O (d + 8) 146 3 [(0, .ref v0), (1, .ref v1), (2, .int (yw v2)), (3, .int (yw v3)), (4, .int (yw v4)), (5, .int (yw v5))] [] M (f_Law_series_3 O f n v0 v1 v2 v3 v4 v5 M) := by
  intro n
  induction n with
  | zero =>
    intro v0 v1 v2 v3 v4 v5 M
    exact xZ.no
  | succ n ih =>
    intro v0 v1 v2 v3 v4 v5 M
    unfold f_Law_series_3
    refine xZ.adv (me := xm146) hP_146 2 (pc' := 6) (lv' := [(0, .ref v0), (1, .ref v1), (2, .int (yw v2)), (3, .int (yw v3)), (4, .int (yw v4)), (5, .int (yw v5))]) (st' := [.int (yw v2), .int (yw v5)]) rfl ?_
    refine xZ.jc_ge (me := xm146) hP_146 rfl (fun h1 => ?_) (fun h1 => ?_)
    · skip
      refine xZ.adv (me := xm146) hP_146 1 (pc' := 256) (lv' := [(0, .ref v0), (1, .ref v1), (2, .int (yw v2)), (3, .int (yw v3)), (4, .int (yw v4)), (5, .int (yw v5))]) (st' := [.int (yw v2)]) rfl ?_
      exact xZ.jreti (me := xm146) hP_146 rfl rfl
    · skip
      refine xZ.adv (me := xm146) hP_146 3 (pc' := 12) (lv' := [(0, .ref v0), (1, .ref v1), (2, .int (yw v2)), (3, .int (yw v3)), (4, .int (yw v4)), (5, .int (yw v5))]) (st' := [.int (3 : Int32), .ref v1, .ref v0]) rfl ?_
      refine xZ.eqs (lv2 := [(0, .ref v0), (1, .ref v1), (2, .int (yw v2)), (3, .int (yw v3)), (4, .int (yw v4)), (5, .int (yw v5))]) (st2 := [.int (yw 3), .ref v1, .ref v0]) rfl (by simp only [yl_lit, yL_lit, yw_add, yw_sub, yw_mul, yw_neg, yl_add, yl_sub, yl_mul, cj_and, cj_or, cj_xor, cj_shl, cj_shr, cj_ushr, cj_div, cj_i2c, cj_i2b, cj_dc, ck_and, ck_or, ck_xor, ck_shl, ck_shr, ck_ushr, ck_i2l, ck_l2i, ck_cmp]) ?_
      refine xZ.callv (κ := oJ) (av := [.int (yw 3)]) (rest := [.ref v0]) (st' := fun x1 => [.int (yw x1), .ref v0]) (k0 := v1) (me := xm146) hP_146 rfl (Or.inl rfl) ⟨rfl, by decide⟩ rfl rfl (Nat.le_of_ble_eq_true rfl) (by decide) hP_12 (Nat.le_of_ble_eq_true rfl) (fun _ => rfl) (k_f_LDraw_n O f (d + 7) v1 3 M) (fun x1 M1 => ?_)
      refine xZ.adv (me := xm146) hP_146 3 (pc' := 19) (lv' := [(0, .ref v0), (1, .ref v1), (2, .int (yw v2)), (3, .int (yw v3)), (4, .int (yw v4)), (5, .int (yw v5))]) (st' := [.int (4 : Int32), .ref v1, .int (yw v4), .int (yw x1), .ref v0]) rfl ?_
      refine xZ.eqs (lv2 := [(0, .ref v0), (1, .ref v1), (2, .int (yw v2)), (3, .int (yw v3)), (4, .int (yw v4)), (5, .int (yw v5))]) (st2 := [.int (yw 4), .ref v1, .int (yw v4), .int (yw x1), .ref v0]) rfl (by simp only [yl_lit, yL_lit, yw_add, yw_sub, yw_mul, yw_neg, yl_add, yl_sub, yl_mul, cj_and, cj_or, cj_xor, cj_shl, cj_shr, cj_ushr, cj_div, cj_i2c, cj_i2b, cj_dc, ck_and, ck_or, ck_xor, ck_shl, ck_shr, ck_ushr, ck_i2l, ck_l2i, ck_cmp]) ?_
      refine xZ.callv (κ := oJ) (av := [.int (yw 4)]) (rest := [.int (yw v4), .int (yw x1), .ref v0]) (st' := fun x2 => [.int (yw x2), .int (yw v4), .int (yw x1), .ref v0]) (k0 := v1) (me := xm146) hP_146 rfl (Or.inl rfl) ⟨rfl, by decide⟩ rfl rfl (Nat.le_of_ble_eq_true rfl) (by decide) hP_12 (Nat.le_of_ble_eq_true rfl) (fun _ => rfl) (k_f_LDraw_n O f (d + 7) v1 4 M1) (fun x2 M2 => ?_)
      refine xZ.adv (me := xm146) hP_146 3 (pc' := 25) (lv' := [(0, .ref v0), (1, .ref v1), (2, .int (yw v2)), (3, .int (yw v3)), (4, .int (yw v4)), (5, .int (yw v5))]) (st' := [.int (3 : Int32), .ref v1, .int ((yw v4) + (yw x2)), .int (yw x1), .ref v0]) rfl ?_
      refine xZ.eqs (lv2 := [(0, .ref v0), (1, .ref v1), (2, .int (yw v2)), (3, .int (yw v3)), (4, .int (yw v4)), (5, .int (yw v5))]) (st2 := [.int (yw 3), .ref v1, .int (yw (v4 + x2)), .int (yw x1), .ref v0]) rfl (by simp only [yl_lit, yL_lit, yw_add, yw_sub, yw_mul, yw_neg, yl_add, yl_sub, yl_mul, cj_and, cj_or, cj_xor, cj_shl, cj_shr, cj_ushr, cj_div, cj_i2c, cj_i2b, cj_dc, ck_and, ck_or, ck_xor, ck_shl, ck_shr, ck_ushr, ck_i2l, ck_l2i, ck_cmp]) ?_
      refine xZ.callv (κ := oJ) (av := [.int (yw 3)]) (rest := [.int (yw (v4 + x2)), .int (yw x1), .ref v0]) (st' := fun x3 => [.int (yw x3), .int (yw (v4 + x2)), .int (yw x1), .ref v0]) (k0 := v1) (me := xm146) hP_146 rfl (Or.inl rfl) ⟨rfl, by decide⟩ rfl rfl (Nat.le_of_ble_eq_true rfl) (by decide) hP_18 (Nat.le_of_ble_eq_true rfl) (fun _ => rfl) (k_f_LDraw_is O f (d + 6) v1 3 M2) (fun x3 M3 => ?_)
      refine xZ.jf_eq (me := xm146) hP_146 rfl (fun h2 => ?_) (fun h2 => ?_)
      · skip
        refine xZ.adv (me := xm146) hP_146 4 (pc' := 49) (lv' := [(0, .ref v0), (1, .ref v1), (2, .int (yw v2)), (3, .int (yw v3)), (4, .int (yw v4)), (5, .int (yw v5))]) (st' := [.int (18 : Int32), .ref v1, .int (30 : Int32), .int (480 : Int32), .int (yw (v4 + x2)), .int (yw x1), .ref v0]) rfl ?_
        refine xZ.eqs (lv2 := [(0, .ref v0), (1, .ref v1), (2, .int (yw v2)), (3, .int (yw v3)), (4, .int (yw v4)), (5, .int (yw v5))]) (st2 := [.int (yw 18), .ref v1, .int (yw 30), .int (yw 480), .int (yw (v4 + x2)), .int (yw x1), .ref v0]) rfl (by simp only [yl_lit, yL_lit, yw_add, yw_sub, yw_mul, yw_neg, yl_add, yl_sub, yl_mul, cj_and, cj_or, cj_xor, cj_shl, cj_shr, cj_ushr, cj_div, cj_i2c, cj_i2b, cj_dc, ck_and, ck_or, ck_xor, ck_shl, ck_shr, ck_ushr, ck_i2l, ck_l2i, ck_cmp]) ?_
        refine xZ.callv (κ := oJ) (av := [.int (yw 18)]) (rest := [.int (yw 30), .int (yw 480), .int (yw (v4 + x2)), .int (yw x1), .ref v0]) (st' := fun x4 => [.int (yw x4), .int (yw 30), .int (yw 480), .int (yw (v4 + x2)), .int (yw x1), .ref v0]) (k0 := v1) (me := xm146) hP_146 rfl (Or.inl rfl) ⟨rfl, by decide⟩ rfl rfl (Nat.le_of_ble_eq_true rfl) (by decide) hP_12 (Nat.le_of_ble_eq_true rfl) (fun _ => rfl) (k_f_LDraw_n O f (d + 7) v1 18 M3) (fun x4 M4 => ?_)
        refine xZ.adv (me := xm146) hP_146 2 (pc' := 54) (lv' := [(0, .ref v0), (1, .ref v1), (2, .int (yw v2)), (3, .int (yw v3)), (4, .int (yw v4)), (5, .int (yw v5))]) (st' := [.int ((yw 480) + ((yw 30) * (yw x4))), .int (yw (v4 + x2)), .int (yw x1), .ref v0]) rfl ?_
        refine xZ.eqs (lv2 := [(0, .ref v0), (1, .ref v1), (2, .int (yw v2)), (3, .int (yw v3)), (4, .int (yw v4)), (5, .int (yw v5))]) (st2 := [.int (yw (480 + (30 * x4))), .int (yw (v4 + x2)), .int (yw x1), .ref v0]) rfl (by simp only [yl_lit, yL_lit, yw_add, yw_sub, yw_mul, yw_neg, yl_add, yl_sub, yl_mul, cj_and, cj_or, cj_xor, cj_shl, cj_shr, cj_ushr, cj_div, cj_i2c, cj_i2b, cj_dc, ck_and, ck_or, ck_xor, ck_shl, ck_shr, ck_ushr, ck_i2l, ck_l2i, ck_cmp]) ?_
        exact (k_f_Law_series_54 O f d (f_Law_series_3 O f n) ih v0 v1 v2 v3 v4 v5 v0 x1 (v4 + x2) (480 + (30 * x4)) M4)
      · skip
        refine xZ.adv (me := xm146) hP_146 2 (pc' := 35) (lv' := [(0, .ref v0), (1, .ref v1), (2, .int (yw v2)), (3, .int (yw v3)), (4, .int (yw v4)), (5, .int (yw v5))]) (st' := [.int (1440 : Int32), .ref v1, .int (yw (v4 + x2)), .int (yw x1), .ref v0]) rfl ?_
        refine xZ.eqs (lv2 := [(0, .ref v0), (1, .ref v1), (2, .int (yw v2)), (3, .int (yw v3)), (4, .int (yw v4)), (5, .int (yw v5))]) (st2 := [.int (yw 1440), .ref v1, .int (yw (v4 + x2)), .int (yw x1), .ref v0]) rfl (by simp only [yl_lit, yL_lit, yw_add, yw_sub, yw_mul, yw_neg, yl_add, yl_sub, yl_mul, cj_and, cj_or, cj_xor, cj_shl, cj_shr, cj_ushr, cj_div, cj_i2c, cj_i2b, cj_dc, ck_and, ck_or, ck_xor, ck_shl, ck_shr, ck_ushr, ck_i2l, ck_l2i, ck_cmp]) ?_
        refine xZ.callv (κ := oJ) (av := [.int (yw 1440)]) (rest := [.int (yw (v4 + x2)), .int (yw x1), .ref v0]) (st' := fun x5 => [.int (yw x5), .int (yw (v4 + x2)), .int (yw x1), .ref v0]) (k0 := v1) (me := xm146) hP_146 rfl (Or.inl rfl) ⟨rfl, by decide⟩ rfl rfl (Nat.le_of_ble_eq_true rfl) (by decide) hP_12 (Nat.le_of_ble_eq_true rfl) (fun _ => rfl) (k_f_LDraw_n O f (d + 7) v1 1440 M3) (fun x5 M5 => ?_)
        refine xZ.adv (me := xm146) hP_146 1 (pc' := 54) (lv' := [(0, .ref v0), (1, .ref v1), (2, .int (yw v2)), (3, .int (yw v3)), (4, .int (yw v4)), (5, .int (yw v5))]) (st' := [.int (yw x5), .int (yw (v4 + x2)), .int (yw x1), .ref v0]) rfl ?_
        exact (k_f_Law_series_54 O f d (f_Law_series_3 O f n) ih v0 v1 v2 v3 v4 v5 v0 x1 (v4 + x2) x5 M5)
def f_Law_series (O : Nat → Option va_E) (f : Nat) (v0 : Nat) (v1 : Nat) (v2 : Int) (v3 : Int) (v4 : Int) (M : xM) : Option (Int × xM) :=
  f_Law_series_3 O f f v0 v1 v2 v3 v4 0 M
set_option maxRecDepth 20000 in
theorem k_f_Law_series (O : Nat → Option va_E) (f d : Nat) (v0 : Nat) (v1 : Nat) (v2 : Int) (v3 : Int) (v4 : Int) (M : xM) : xZ oJ O (d + 8) 146 0 [(0, .ref v0), (1, .ref v1), (2, .int (yw v2)), (3, .int (yw v3)), (4, .int (yw v4))] [] M (f_Law_series O f v0 v1 v2 v3 v4 M) := by
  unfold f_Law_series
  refine xZ.adv (me := xm146) hP_146 2 (pc' := 3) (lv' := [(5, .int (0 : Int32)), (0, .ref v0), (1, .ref v1), (2, .int (yw v2)), (3, .int (yw v3)), (4, .int (yw v4))]) (st' := []) rfl ?_
  refine xZ.eqs (lv2 := [(5, .int (yw 0)), (0, .ref v0), (1, .ref v1), (2, .int (yw v2)), (3, .int (yw v3)), (4, .int (yw v4))]) (st2 := []) (by simp only [yl_lit, yL_lit, yw_add, yw_sub, yw_mul, yw_neg, yl_add, yl_sub, yl_mul, cj_and, cj_or, cj_xor, cj_shl, cj_shr, cj_ushr, cj_div, cj_i2c, cj_i2b, cj_dc, ck_and, ck_or, ck_xor, ck_shl, ck_shr, ck_ushr, ck_i2l, ck_l2i, ck_cmp]) rfl ?_
  exact xZ.sub (xsc (.tail _ (.head _)) (xsc (.tail _ (.tail _ (.head _))) (xsc (.tail _ (.tail _ (.tail _ (.head _)))) (xsc (.tail _ (.tail _ (.tail _ (.tail _ (.head _))))) (xsc (.tail _ (.tail _ (.tail _ (.tail _ (.tail _ (.head _)))))) (xsc (.head _) xsn)))))) (show ([5, 0, 1, 2, 3, 4] : List Nat).Nodup from by decide) (k_f_Law_series_3 O f d f v0 v1 v2 v3 v4 0 M)
def f_Calendarhall_setPerson (O : Nat → Option va_E) (f : Nat) (v0 : Nat) (v1 : Int) (v2 : Int) (v3 : Int) (v4 : Int) (v5 : Int) (M : xM) : Option (Int × xM) :=
  (isO O M v0 12).bind fun _ =>
  xcl (f_Calendarhall_personNumbered O f v0 v1 M) fun x1 M1 =>
  (isO O M1 v0 12).bind fun _ =>
  xcl (f_Calendarhall_zoneNumbered O f v0 v2 M1) fun x2 M2 =>
  xcl (f_Calendarhall_needRange O f v3 0 127 M2) fun _ M3 =>
  xcl (f_Calendarhall_needRange O f v4 0 1439 M3) fun _ M4 =>
  xcl (f_Calendarhall_needRange O f v5 (v4 + 1) 1440 M4) fun _ M5 =>
  (gJ O M5 x1 6 0).bind fun x6 =>
  (isO O M5 v0 12).bind fun _ =>
  xcl (f_Calendarhall_saveForUndo O f v0 M5) fun _ M6 =>
  (isO O M6 x1 6).bind fun _ =>
  xcl (f_Person_put O f x1 v2 v3 v4 v5 M6) fun _ M7 =>
  some (x6, M7)
set_option maxRecDepth 20000 in
theorem k_f_Calendarhall_setPerson (O : Nat → Option va_E) (f d : Nat) (v0 : Nat) (v1 : Int) (v2 : Int) (v3 : Int) (v4 : Int) (v5 : Int) (M : xM) : xZ oJ O (d + 5) 151 0 [(0, .ref v0), (1, .int (yw v1)), (2, .int (yw v2)), (3, .int (yw v3)), (4, .int (yw v4)), (5, .int (yw v5))] [] M (f_Calendarhall_setPerson O f v0 v1 v2 v3 v4 v5 M) := by
  unfold f_Calendarhall_setPerson
  refine xZ.adv (me := xm151) hP_151 2 (pc' := 2) (lv' := [(0, .ref v0), (1, .int (yw v1)), (2, .int (yw v2)), (3, .int (yw v3)), (4, .int (yw v4)), (5, .int (yw v5))]) (st' := [.int (yw v1), .ref v0]) rfl ?_
  refine xZ.callv (κ := oR) (av := [.int (yw v1)]) (rest := []) (st' := fun x1 => [.ref x1]) (k0 := v0) (me := xm151) hP_151 rfl (Or.inl rfl) ⟨rfl, by decide⟩ rfl rfl (Nat.le_of_ble_eq_true rfl) (by decide) hP_148 (Nat.le_of_ble_eq_true rfl) (fun _ => rfl) (k_f_Calendarhall_personNumbered O f (d + 3) v0 v1 M) (fun x1 M1 => ?_)
  refine xZ.adv (me := xm151) hP_151 3 (pc' := 9) (lv' := [(6, .ref x1), (0, .ref v0), (1, .int (yw v1)), (2, .int (yw v2)), (3, .int (yw v3)), (4, .int (yw v4)), (5, .int (yw v5))]) (st' := [.int (yw v2), .ref v0]) rfl ?_
  refine xZ.callv (κ := oR) (av := [.int (yw v2)]) (rest := []) (st' := fun x2 => [.ref x2]) (k0 := v0) (me := xm151) hP_151 rfl (Or.inl rfl) ⟨rfl, by decide⟩ rfl rfl (Nat.le_of_ble_eq_true rfl) (by decide) hP_20 (Nat.le_of_ble_eq_true rfl) (fun _ => rfl) (k_f_Calendarhall_zoneNumbered O f (d + 3) v0 v2 M1) (fun x2 M2 => ?_)
  refine xZ.adv (me := xm151) hP_151 4 (pc' := 17) (lv' := [(6, .ref x1), (0, .ref v0), (1, .int (yw v1)), (2, .int (yw v2)), (3, .int (yw v3)), (4, .int (yw v4)), (5, .int (yw v5))]) (st' := [.int (127 : Int32), .int (0 : Int32), .int (yw v3)]) rfl ?_
  refine xZ.eqs (lv2 := [(6, .ref x1), (0, .ref v0), (1, .int (yw v1)), (2, .int (yw v2)), (3, .int (yw v3)), (4, .int (yw v4)), (5, .int (yw v5))]) (st2 := [.int (yw 127), .int (yw 0), .int (yw v3)]) rfl (by simp only [yl_lit, yL_lit, yw_add, yw_sub, yw_mul, yw_neg, yl_add, yl_sub, yl_mul, cj_and, cj_or, cj_xor, cj_shl, cj_shr, cj_ushr, cj_div, cj_i2c, cj_i2b, cj_dc, ck_and, ck_or, ck_xor, ck_shl, ck_shr, ck_ushr, ck_i2l, ck_l2i, ck_cmp]) ?_
  refine xZ.calls (κ := oU) (av := [.int (yw v3), .int (yw 0), .int (yw 127)]) (rest := []) (st' := fun _ => []) (me := xm151) hP_151 rfl rfl rfl (Nat.le_of_ble_eq_true rfl) (by decide) hP_22 (Nat.le_of_ble_eq_true rfl) (fun _ => rfl) (k_f_Calendarhall_needRange O f (d + 4) v3 0 127 M2) (fun _ M3 => ?_)
  refine xZ.adv (me := xm151) hP_151 3 (pc' := 26) (lv' := [(6, .ref x1), (0, .ref v0), (1, .int (yw v1)), (2, .int (yw v2)), (3, .int (yw v3)), (4, .int (yw v4)), (5, .int (yw v5))]) (st' := [.int (1439 : Int32), .int (0 : Int32), .int (yw v4)]) rfl ?_
  refine xZ.eqs (lv2 := [(6, .ref x1), (0, .ref v0), (1, .int (yw v1)), (2, .int (yw v2)), (3, .int (yw v3)), (4, .int (yw v4)), (5, .int (yw v5))]) (st2 := [.int (yw 1439), .int (yw 0), .int (yw v4)]) rfl (by simp only [yl_lit, yL_lit, yw_add, yw_sub, yw_mul, yw_neg, yl_add, yl_sub, yl_mul, cj_and, cj_or, cj_xor, cj_shl, cj_shr, cj_ushr, cj_div, cj_i2c, cj_i2b, cj_dc, ck_and, ck_or, ck_xor, ck_shl, ck_shr, ck_ushr, ck_i2l, ck_l2i, ck_cmp]) ?_
  refine xZ.calls (κ := oU) (av := [.int (yw v4), .int (yw 0), .int (yw 1439)]) (rest := []) (st' := fun _ => []) (me := xm151) hP_151 rfl rfl rfl (Nat.le_of_ble_eq_true rfl) (by decide) hP_22 (Nat.le_of_ble_eq_true rfl) (fun _ => rfl) (k_f_Calendarhall_needRange O f (d + 4) v4 0 1439 M3) (fun _ M4 => ?_)
  refine xZ.adv (me := xm151) hP_151 5 (pc' := 38) (lv' := [(6, .ref x1), (0, .ref v0), (1, .int (yw v1)), (2, .int (yw v2)), (3, .int (yw v3)), (4, .int (yw v4)), (5, .int (yw v5))]) (st' := [.int (1440 : Int32), .int ((yw v4) + (1 : Int32)), .int (yw v5)]) rfl ?_
  refine xZ.eqs (lv2 := [(6, .ref x1), (0, .ref v0), (1, .int (yw v1)), (2, .int (yw v2)), (3, .int (yw v3)), (4, .int (yw v4)), (5, .int (yw v5))]) (st2 := [.int (yw 1440), .int (yw (v4 + 1)), .int (yw v5)]) rfl (by simp only [yl_lit, yL_lit, yw_add, yw_sub, yw_mul, yw_neg, yl_add, yl_sub, yl_mul, cj_and, cj_or, cj_xor, cj_shl, cj_shr, cj_ushr, cj_div, cj_i2c, cj_i2b, cj_dc, ck_and, ck_or, ck_xor, ck_shl, ck_shr, ck_ushr, ck_i2l, ck_l2i, ck_cmp]) ?_
  refine xZ.calls (κ := oU) (av := [.int (yw v5), .int (yw (v4 + 1)), .int (yw 1440)]) (rest := []) (st' := fun _ => []) (me := xm151) hP_151 rfl rfl rfl (Nat.le_of_ble_eq_true rfl) (by decide) hP_22 (Nat.le_of_ble_eq_true rfl) (fun _ => rfl) (k_f_Calendarhall_needRange O f (d + 4) v5 (v4 + 1) 1440 M4) (fun _ M5 => ?_)
  refine xZ.adv (me := xm151) hP_151 1 (pc' := 43) (lv' := [(6, .ref x1), (0, .ref v0), (1, .int (yw v1)), (2, .int (yw v2)), (3, .int (yw v3)), (4, .int (yw v4)), (5, .int (yw v5))]) (st' := [.ref x1]) rfl ?_
  refine xZ.k_gJ (me := xm151) hP_151 rfl (fun x6 => ?_)
  refine xZ.adv (me := xm151) hP_151 2 (pc' := 49) (lv' := [(7, .int (yw x6)), (6, .ref x1), (0, .ref v0), (1, .int (yw v1)), (2, .int (yw v2)), (3, .int (yw v3)), (4, .int (yw v4)), (5, .int (yw v5))]) (st' := [.ref v0]) rfl ?_
  refine xZ.callv (κ := oU) (av := []) (rest := []) (st' := fun _ => []) (k0 := v0) (me := xm151) hP_151 rfl (Or.inl rfl) ⟨rfl, by decide⟩ rfl rfl (Nat.le_of_ble_eq_true rfl) (by decide) hP_23 (Nat.le_of_ble_eq_true rfl) (fun _ => rfl) (k_f_Calendarhall_saveForUndo O f (d + 0) v0 M5) (fun _ M6 => ?_)
  refine xZ.adv (me := xm151) hP_151 5 (pc' := 60) (lv' := [(7, .int (yw x6)), (6, .ref x1), (0, .ref v0), (1, .int (yw v1)), (2, .int (yw v2)), (3, .int (yw v3)), (4, .int (yw v4)), (5, .int (yw v5))]) (st' := [.int (yw v5), .int (yw v4), .int (yw v3), .int (yw v2), .ref x1]) rfl ?_
  refine xZ.callv (κ := oU) (av := [.int (yw v2), .int (yw v3), .int (yw v4), .int (yw v5)]) (rest := []) (st' := fun _ => []) (k0 := x1) (me := xm151) hP_151 rfl (Or.inl rfl) ⟨rfl, by decide⟩ rfl rfl (Nat.le_of_ble_eq_true rfl) (by decide) hP_28 (Nat.le_of_ble_eq_true rfl) (fun _ => rfl) (k_f_Person_put O f (d + 4) x1 v2 v3 v4 v5 M6) (fun _ M7 => ?_)
  refine xZ.adv (me := xm151) hP_151 1 (pc' := 65) (lv' := [(7, .int (yw x6)), (6, .ref x1), (0, .ref v0), (1, .int (yw v1)), (2, .int (yw v2)), (3, .int (yw v3)), (4, .int (yw v4)), (5, .int (yw v5))]) (st' := [.int (yw x6)]) rfl ?_
  exact xZ.jreti (me := xm151) hP_151 rfl rfl
def f_LDates_copies (O : Nat → Option va_E) (f : Nat) (v0 : Nat) (v1 : Int) (v2 : Int) (M : xM) : Option (Unit × xM) :=
  (gR O M v0 13 0).bind fun x1 =>
  (gR O M v0 13 0).bind fun x2 =>
  (aJ O M x2 v1).bind fun x3 =>
  (wJ M x1 v2 x3).bind fun M1 =>
  (gR O M1 v0 13 1).bind fun x4 =>
  (gR O M1 v0 13 1).bind fun x5 =>
  (aJ O M1 x5 v1).bind fun x6 =>
  (wJ M1 x4 v2 x6).bind fun M2 =>
  (gR O M2 v0 13 2).bind fun x7 =>
  (gR O M2 v0 13 2).bind fun x8 =>
  (aJ O M2 x8 v1).bind fun x9 =>
  (wJ M2 x7 v2 x9).bind fun M3 =>
  (gR O M3 v0 13 3).bind fun x10 =>
  (gR O M3 v0 13 3).bind fun x11 =>
  (aJ O M3 x11 v1).bind fun x12 =>
  (wJ M3 x10 v2 x12).bind fun M4 =>
  some ((), M4)
set_option maxRecDepth 20000 in
theorem k_f_LDates_copies (O : Nat → Option va_E) (f d : Nat) (v0 : Nat) (v1 : Int) (v2 : Int) (M : xM) : xZ oU O (d + 0) 153 0 [(0, .ref v0), (1, .int (yw v1)), (2, .int (yw v2))] [] M (f_LDates_copies O f v0 v1 v2 M) := by
  unfold f_LDates_copies
  refine xZ.adv (me := xm153) hP_153 1 (pc' := 1) (lv' := [(0, .ref v0), (1, .int (yw v1)), (2, .int (yw v2))]) (st' := [.ref v0]) rfl ?_
  refine xZ.k_gR (me := xm153) hP_153 rfl (fun x1 => ?_)
  refine xZ.adv (me := xm153) hP_153 2 (pc' := 6) (lv' := [(0, .ref v0), (1, .int (yw v1)), (2, .int (yw v2))]) (st' := [.ref v0, .int (yw v2), .ref x1]) rfl ?_
  refine xZ.k_gR (me := xm153) hP_153 rfl (fun x2 => ?_)
  refine xZ.adv (me := xm153) hP_153 1 (pc' := 10) (lv' := [(0, .ref v0), (1, .int (yw v1)), (2, .int (yw v2))]) (st' := [.int (yw v1), .ref x2, .int (yw v2), .ref x1]) rfl ?_
  refine xZ.k_aJ (me := xm153) hP_153 rfl (fun x3 => ?_)
  refine xZ.k_wJ (me := xm153) hP_153 rfl (fun M1 => ?_)
  refine xZ.adv (me := xm153) hP_153 1 (pc' := 13) (lv' := [(0, .ref v0), (1, .int (yw v1)), (2, .int (yw v2))]) (st' := [.ref v0]) rfl ?_
  refine xZ.k_gR (me := xm153) hP_153 rfl (fun x4 => ?_)
  refine xZ.adv (me := xm153) hP_153 2 (pc' := 18) (lv' := [(0, .ref v0), (1, .int (yw v1)), (2, .int (yw v2))]) (st' := [.ref v0, .int (yw v2), .ref x4]) rfl ?_
  refine xZ.k_gR (me := xm153) hP_153 rfl (fun x5 => ?_)
  refine xZ.adv (me := xm153) hP_153 1 (pc' := 22) (lv' := [(0, .ref v0), (1, .int (yw v1)), (2, .int (yw v2))]) (st' := [.int (yw v1), .ref x5, .int (yw v2), .ref x4]) rfl ?_
  refine xZ.k_aJ (me := xm153) hP_153 rfl (fun x6 => ?_)
  refine xZ.k_wJ (me := xm153) hP_153 rfl (fun M2 => ?_)
  refine xZ.adv (me := xm153) hP_153 1 (pc' := 25) (lv' := [(0, .ref v0), (1, .int (yw v1)), (2, .int (yw v2))]) (st' := [.ref v0]) rfl ?_
  refine xZ.k_gR (me := xm153) hP_153 rfl (fun x7 => ?_)
  refine xZ.adv (me := xm153) hP_153 2 (pc' := 30) (lv' := [(0, .ref v0), (1, .int (yw v1)), (2, .int (yw v2))]) (st' := [.ref v0, .int (yw v2), .ref x7]) rfl ?_
  refine xZ.k_gR (me := xm153) hP_153 rfl (fun x8 => ?_)
  refine xZ.adv (me := xm153) hP_153 1 (pc' := 34) (lv' := [(0, .ref v0), (1, .int (yw v1)), (2, .int (yw v2))]) (st' := [.int (yw v1), .ref x8, .int (yw v2), .ref x7]) rfl ?_
  refine xZ.k_aJ (me := xm153) hP_153 rfl (fun x9 => ?_)
  refine xZ.k_wJ (me := xm153) hP_153 rfl (fun M3 => ?_)
  refine xZ.adv (me := xm153) hP_153 1 (pc' := 37) (lv' := [(0, .ref v0), (1, .int (yw v1)), (2, .int (yw v2))]) (st' := [.ref v0]) rfl ?_
  refine xZ.k_gR (me := xm153) hP_153 rfl (fun x10 => ?_)
  refine xZ.adv (me := xm153) hP_153 2 (pc' := 42) (lv' := [(0, .ref v0), (1, .int (yw v1)), (2, .int (yw v2))]) (st' := [.ref v0, .int (yw v2), .ref x10]) rfl ?_
  refine xZ.k_gR (me := xm153) hP_153 rfl (fun x11 => ?_)
  refine xZ.adv (me := xm153) hP_153 1 (pc' := 46) (lv' := [(0, .ref v0), (1, .int (yw v1)), (2, .int (yw v2))]) (st' := [.int (yw v1), .ref x11, .int (yw v2), .ref x10]) rfl ?_
  refine xZ.k_aJ (me := xm153) hP_153 rfl (fun x12 => ?_)
  refine xZ.k_wJ (me := xm153) hP_153 rfl (fun M4 => ?_)
  exact xZ.retu (me := xm153) hP_153 rfl rfl
def f_LDates_ctor_204 (O : Nat → Option va_E) (f : Nat) (K59 : Nat → Nat → Int → Int → Int → Int → Int → xM → Option (Unit × xM)) (v0 : Nat) (v1 : Nat) (v2 : Int) (v3 : Int) (v4 : Int) (v5 : Int) (v6 : Int) (M : xM) : Option (Unit × xM) :=
  (isO O M v1 12).bind fun _ =>
  xcl (f_Calendarhall_nextDay O f v1 v5 (v6 + 1) M) fun x1 M1 =>
  K59 v0 v1 v2 v3 v4 v5 x1 M1
set_option maxRecDepth 20000 in
theorem k_f_LDates_ctor_204 (O : Nat → Option va_E) (f d : Nat) (K59 : Nat → Nat → Int → Int → Int → Int → Int → xM → Option (Unit × xM)) (hK59 : ∀ (v0 : Nat) (v1 : Nat) (v2 : Int) (v3 : Int) (v4 : Int) (v5 : Int) (v6 : Int) M, xZ oU O (d + 6) 152 59 [(0, .ref v0), (1, .ref v1), (2, .int (yw v2)), (3, .int (yw v3)), (4, .int (yw v4)), (5, .int (yw v5)), (6, .int (yw v6))] [] M (K59 v0 v1 v2 v3 v4 v5 v6 M)) (v0 : Nat) (v1 : Nat) (v2 : Int) (v3 : Int) (v4 : Int) (v5 : Int) (v6 : Int) (M : xM) : xZ oU O (d + 6) 152 204 [(0, .ref v0), (1, .ref v1), (2, .int (yw v2)), (3, .int (yw v3)), (4, .int (yw v4)), (5, .int (yw v5)), (6, .int (yw v6))] [] M (f_LDates_ctor_204 O f K59 v0 v1 v2 v3 v4 v5 v6 M) := by
  unfold f_LDates_ctor_204
  refine xZ.adv (me := xm152) hP_152 5 (pc' := 211) (lv' := [(0, .ref v0), (1, .ref v1), (2, .int (yw v2)), (3, .int (yw v3)), (4, .int (yw v4)), (5, .int (yw v5)), (6, .int (yw v6))]) (st' := [.int ((yw v6) + (1 : Int32)), .int (yw v5), .ref v1]) rfl ?_
  refine xZ.eqs (lv2 := [(0, .ref v0), (1, .ref v1), (2, .int (yw v2)), (3, .int (yw v3)), (4, .int (yw v4)), (5, .int (yw v5)), (6, .int (yw v6))]) (st2 := [.int (yw (v6 + 1)), .int (yw v5), .ref v1]) rfl (by simp only [yl_lit, yL_lit, yw_add, yw_sub, yw_mul, yw_neg, yl_add, yl_sub, yl_mul, cj_and, cj_or, cj_xor, cj_shl, cj_shr, cj_ushr, cj_div, cj_i2c, cj_i2b, cj_dc, ck_and, ck_or, ck_xor, ck_shl, ck_shr, ck_ushr, ck_i2l, ck_l2i, ck_cmp]) ?_
  refine xZ.callv (κ := oJ) (av := [.int (yw v5), .int (yw (v6 + 1))]) (rest := []) (st' := fun x1 => [.int (yw x1)]) (k0 := v1) (me := xm152) hP_152 rfl (Or.inl rfl) ⟨rfl, by decide⟩ rfl rfl (Nat.le_of_ble_eq_true rfl) (by decide) hP_91 (Nat.le_of_ble_eq_true rfl) (fun _ => rfl) (k_f_Calendarhall_nextDay O f (d + 0) v1 v5 (v6 + 1) M) (fun x1 M1 => ?_)
  refine xZ.adv (me := xm152) hP_152 2 (pc' := 59) (lv' := [(6, .int (yw x1)), (0, .ref v0), (1, .ref v1), (2, .int (yw v2)), (3, .int (yw v3)), (4, .int (yw v4)), (5, .int (yw v5))]) (st' := []) rfl ?_
  exact xZ.sub (xsc (.tail _ (.head _)) (xsc (.tail _ (.tail _ (.head _))) (xsc (.tail _ (.tail _ (.tail _ (.head _)))) (xsc (.tail _ (.tail _ (.tail _ (.tail _ (.head _))))) (xsc (.tail _ (.tail _ (.tail _ (.tail _ (.tail _ (.head _)))))) (xsc (.tail _ (.tail _ (.tail _ (.tail _ (.tail _ (.tail _ (.head _))))))) (xsc (.head _) xsn))))))) (show ([6, 0, 1, 2, 3, 4, 5] : List Nat).Nodup from by decide) (hK59 v0 v1 v2 v3 v4 v5 x1 M1)
def f_LDates_ctor_153 (O : Nat → Option va_E) (f : Nat) (K59 : Nat → Nat → Int → Int → Int → Int → Int → xM → Option (Unit × xM)) (v0 : Nat) (v1 : Nat) (v2 : Int) (v3 : Int) (v4 : Int) (v5 : Int) (v6 : Int) (v7 : Int) (v8 : Int) (M : xM) : Option (Unit × xM) :=
  (gR O M v0 13 0).bind fun x1 =>
  (wJ M x1 v8 v5).bind fun M1 =>
  (gR O M1 v0 13 1).bind fun x2 =>
  (wJ M1 x2 v8 v6).bind fun M2 =>
  (gR O M2 v0 13 2).bind fun x3 =>
  (wJ M2 x3 v8 v7).bind fun M3 =>
  (gR O M3 v0 13 3).bind fun x4 =>
  (isO O M3 v1 12).bind fun _ =>
  xcl (f_Calendarhall_seriesAt O f v1 v5 3 M3) fun x5 M4 =>
  (wJ M4 x4 v8 x5).bind fun M5 =>
  (gJ O M5 v0 13 4).bind fun x6 =>
  (pJ M5 v0 13 4 (x6 + 1)).bind fun M6 =>
  f_LDates_ctor_204 O f K59 v0 v1 v2 v3 v4 v5 v6 M6
set_option maxRecDepth 20000 in
theorem k_f_LDates_ctor_153 (O : Nat → Option va_E) (f d : Nat) (K59 : Nat → Nat → Int → Int → Int → Int → Int → xM → Option (Unit × xM)) (hK59 : ∀ (v0 : Nat) (v1 : Nat) (v2 : Int) (v3 : Int) (v4 : Int) (v5 : Int) (v6 : Int) M, xZ oU O (d + 6) 152 59 [(0, .ref v0), (1, .ref v1), (2, .int (yw v2)), (3, .int (yw v3)), (4, .int (yw v4)), (5, .int (yw v5)), (6, .int (yw v6))] [] M (K59 v0 v1 v2 v3 v4 v5 v6 M)) (v0 : Nat) (v1 : Nat) (v2 : Int) (v3 : Int) (v4 : Int) (v5 : Int) (v6 : Int) (v7 : Int) (v8 : Int) (M : xM) : xZ oU O (d + 6) 152 153 [(0, .ref v0), (1, .ref v1), (2, .int (yw v2)), (3, .int (yw v3)), (4, .int (yw v4)), (5, .int (yw v5)), (6, .int (yw v6)), (7, .int (yw v7)), (8, .int (yw v8))] [] M (f_LDates_ctor_153 O f K59 v0 v1 v2 v3 v4 v5 v6 v7 v8 M) := by
  unfold f_LDates_ctor_153
  refine xZ.adv (me := xm152) hP_152 1 (pc' := 154) (lv' := [(0, .ref v0), (1, .ref v1), (2, .int (yw v2)), (3, .int (yw v3)), (4, .int (yw v4)), (5, .int (yw v5)), (6, .int (yw v6)), (7, .int (yw v7)), (8, .int (yw v8))]) (st' := [.ref v0]) rfl ?_
  refine xZ.k_gR (me := xm152) hP_152 rfl (fun x1 => ?_)
  refine xZ.adv (me := xm152) hP_152 2 (pc' := 161) (lv' := [(0, .ref v0), (1, .ref v1), (2, .int (yw v2)), (3, .int (yw v3)), (4, .int (yw v4)), (5, .int (yw v5)), (6, .int (yw v6)), (7, .int (yw v7)), (8, .int (yw v8))]) (st' := [.int (yw v5), .int (yw v8), .ref x1]) rfl ?_
  refine xZ.k_wJ (me := xm152) hP_152 rfl (fun M1 => ?_)
  refine xZ.adv (me := xm152) hP_152 1 (pc' := 163) (lv' := [(0, .ref v0), (1, .ref v1), (2, .int (yw v2)), (3, .int (yw v3)), (4, .int (yw v4)), (5, .int (yw v5)), (6, .int (yw v6)), (7, .int (yw v7)), (8, .int (yw v8))]) (st' := [.ref v0]) rfl ?_
  refine xZ.k_gR (me := xm152) hP_152 rfl (fun x2 => ?_)
  refine xZ.adv (me := xm152) hP_152 2 (pc' := 170) (lv' := [(0, .ref v0), (1, .ref v1), (2, .int (yw v2)), (3, .int (yw v3)), (4, .int (yw v4)), (5, .int (yw v5)), (6, .int (yw v6)), (7, .int (yw v7)), (8, .int (yw v8))]) (st' := [.int (yw v6), .int (yw v8), .ref x2]) rfl ?_
  refine xZ.k_wJ (me := xm152) hP_152 rfl (fun M2 => ?_)
  refine xZ.adv (me := xm152) hP_152 1 (pc' := 172) (lv' := [(0, .ref v0), (1, .ref v1), (2, .int (yw v2)), (3, .int (yw v3)), (4, .int (yw v4)), (5, .int (yw v5)), (6, .int (yw v6)), (7, .int (yw v7)), (8, .int (yw v8))]) (st' := [.ref v0]) rfl ?_
  refine xZ.k_gR (me := xm152) hP_152 rfl (fun x3 => ?_)
  refine xZ.adv (me := xm152) hP_152 2 (pc' := 179) (lv' := [(0, .ref v0), (1, .ref v1), (2, .int (yw v2)), (3, .int (yw v3)), (4, .int (yw v4)), (5, .int (yw v5)), (6, .int (yw v6)), (7, .int (yw v7)), (8, .int (yw v8))]) (st' := [.int (yw v7), .int (yw v8), .ref x3]) rfl ?_
  refine xZ.k_wJ (me := xm152) hP_152 rfl (fun M3 => ?_)
  refine xZ.adv (me := xm152) hP_152 1 (pc' := 181) (lv' := [(0, .ref v0), (1, .ref v1), (2, .int (yw v2)), (3, .int (yw v3)), (4, .int (yw v4)), (5, .int (yw v5)), (6, .int (yw v6)), (7, .int (yw v7)), (8, .int (yw v8))]) (st' := [.ref v0]) rfl ?_
  refine xZ.k_gR (me := xm152) hP_152 rfl (fun x4 => ?_)
  refine xZ.adv (me := xm152) hP_152 4 (pc' := 190) (lv' := [(0, .ref v0), (1, .ref v1), (2, .int (yw v2)), (3, .int (yw v3)), (4, .int (yw v4)), (5, .int (yw v5)), (6, .int (yw v6)), (7, .int (yw v7)), (8, .int (yw v8))]) (st' := [.int (3 : Int32), .int (yw v5), .ref v1, .int (yw v8), .ref x4]) rfl ?_
  refine xZ.eqs (lv2 := [(0, .ref v0), (1, .ref v1), (2, .int (yw v2)), (3, .int (yw v3)), (4, .int (yw v4)), (5, .int (yw v5)), (6, .int (yw v6)), (7, .int (yw v7)), (8, .int (yw v8))]) (st2 := [.int (yw 3), .int (yw v5), .ref v1, .int (yw v8), .ref x4]) rfl (by simp only [yl_lit, yL_lit, yw_add, yw_sub, yw_mul, yw_neg, yl_add, yl_sub, yl_mul, cj_and, cj_or, cj_xor, cj_shl, cj_shr, cj_ushr, cj_div, cj_i2c, cj_i2b, cj_dc, ck_and, ck_or, ck_xor, ck_shl, ck_shr, ck_ushr, ck_i2l, ck_l2i, ck_cmp]) ?_
  refine xZ.callv (κ := oJ) (av := [.int (yw v5), .int (yw 3)]) (rest := [.int (yw v8), .ref x4]) (st' := fun x5 => [.int (yw x5), .int (yw v8), .ref x4]) (k0 := v1) (me := xm152) hP_152 rfl (Or.inl rfl) ⟨rfl, by decide⟩ rfl rfl (Nat.le_of_ble_eq_true rfl) (by decide) hP_126 (Nat.le_of_ble_eq_true rfl) (fun _ => rfl) (k_f_Calendarhall_seriesAt O f (d + 3) v1 v5 3 M3) (fun x5 M4 => ?_)
  refine xZ.k_wJ (me := xm152) hP_152 rfl (fun M5 => ?_)
  refine xZ.adv (me := xm152) hP_152 2 (pc' := 196) (lv' := [(0, .ref v0), (1, .ref v1), (2, .int (yw v2)), (3, .int (yw v3)), (4, .int (yw v4)), (5, .int (yw v5)), (6, .int (yw v6)), (7, .int (yw v7)), (8, .int (yw v8))]) (st' := [.ref v0, .ref v0]) rfl ?_
  refine xZ.k_gJ (me := xm152) hP_152 rfl (fun x6 => ?_)
  refine xZ.adv (me := xm152) hP_152 2 (pc' := 201) (lv' := [(0, .ref v0), (1, .ref v1), (2, .int (yw v2)), (3, .int (yw v3)), (4, .int (yw v4)), (5, .int (yw v5)), (6, .int (yw v6)), (7, .int (yw v7)), (8, .int (yw v8))]) (st' := [.int ((yw x6) + (1 : Int32)), .ref v0]) rfl ?_
  refine xZ.eqs (lv2 := [(0, .ref v0), (1, .ref v1), (2, .int (yw v2)), (3, .int (yw v3)), (4, .int (yw v4)), (5, .int (yw v5)), (6, .int (yw v6)), (7, .int (yw v7)), (8, .int (yw v8))]) (st2 := [.int (yw (x6 + 1)), .ref v0]) rfl (by simp only [yl_lit, yL_lit, yw_add, yw_sub, yw_mul, yw_neg, yl_add, yl_sub, yl_mul, cj_and, cj_or, cj_xor, cj_shl, cj_shr, cj_ushr, cj_div, cj_i2c, cj_i2b, cj_dc, ck_and, ck_or, ck_xor, ck_shl, ck_shr, ck_ushr, ck_i2l, ck_l2i, ck_cmp]) ?_
  refine xZ.k_pJ (me := xm152) hP_152 rfl (fun M6 => ?_)
  exact xZ.sub (xsc (.head _) (xsc (.tail _ (.head _)) (xsc (.tail _ (.tail _ (.head _))) (xsc (.tail _ (.tail _ (.tail _ (.head _)))) (xsc (.tail _ (.tail _ (.tail _ (.tail _ (.head _))))) (xsc (.tail _ (.tail _ (.tail _ (.tail _ (.tail _ (.head _)))))) (xsc (.tail _ (.tail _ (.tail _ (.tail _ (.tail _ (.tail _ (.head _))))))) xsn))))))) (show ([0, 1, 2, 3, 4, 5, 6, 7, 8] : List Nat).Nodup from by decide) (k_f_LDates_ctor_204 O f d K59 hK59 v0 v1 v2 v3 v4 v5 v6 M6)
def f_LDates_ctor_118 (O : Nat → Option va_E) (f : Nat) (K59 : Nat → Nat → Int → Int → Int → Int → Int → xM → Option (Unit × xM)) : Nat → Nat → Nat → Int → Int → Int → Int → Int → Int → Int → xM → Option (Unit × xM)
  | 0, _, _, _, _, _, _, _, _, _, _ => none
  | n + 1, v0, v1, v2, v3, v4, v5, v6, v7, v8, M =>
    if yw v8 ≤ yw 0 then (
      f_LDates_ctor_153 O f K59 v0 v1 v2 v3 v4 v5 v6 v7 v8 M
    ) else
    (gR O M v0 13 2).bind fun x1 =>
    (aJ O M x1 (v8 - 1)).bind fun x2 =>
    if yw x2 ≤ yw v7 then (
      f_LDates_ctor_153 O f K59 v0 v1 v2 v3 v4 v5 v6 v7 v8 M
    ) else
    (isO O M v0 13).bind fun _ =>
    xcl (f_LDates_copies O f v0 (v8 - 1) v8 M) fun _ M1 =>
    f_LDates_ctor_118 O f K59 n v0 v1 v2 v3 v4 v5 v6 v7 (v8 + (-1)) M1
set_option maxRecDepth 20000 in
theorem k_f_LDates_ctor_118 (O : Nat → Option va_E) (f d : Nat) (K59 : Nat → Nat → Int → Int → Int → Int → Int → xM → Option (Unit × xM)) (hK59 : ∀ (v0 : Nat) (v1 : Nat) (v2 : Int) (v3 : Int) (v4 : Int) (v5 : Int) (v6 : Int) M, xZ oU O (d + 6) 152 59 [(0, .ref v0), (1, .ref v1), (2, .int (yw v2)), (3, .int (yw v3)), (4, .int (yw v4)), (5, .int (yw v5)), (6, .int (yw v6))] [] M (K59 v0 v1 v2 v3 v4 v5 v6 M)) : ∀ (n : Nat) (v0 : Nat) (v1 : Nat) (v2 : Int) (v3 : Int) (v4 : Int) (v5 : Int) (v6 : Int) (v7 : Int) (v8 : Int) (M : xM), xZ oU O (d + 6) 152 118 [(0, .ref v0), (1, .ref v1), (2, .int (yw v2)), (3, .int (yw v3)), (4, .int (yw v4)), (5, .int (yw v5)), (6, .int (yw v6)), (7, .int (yw v7)), (8, .int (yw v8))] [] M (f_LDates_ctor_118 O f K59 n v0 v1 v2 v3 v4 v5 v6 v7 v8 M) := by
  intro n
  induction n with
  | zero =>
    intro v0 v1 v2 v3 v4 v5 v6 v7 v8 M
    exact xZ.no
  | succ n ih =>
    intro v0 v1 v2 v3 v4 v5 v6 v7 v8 M
    unfold f_LDates_ctor_118
    refine xZ.adv (me := xm152) hP_152 1 (pc' := 120) (lv' := [(0, .ref v0), (1, .ref v1), (2, .int (yw v2)), (3, .int (yw v3)), (4, .int (yw v4)), (5, .int (yw v5)), (6, .int (yw v6)), (7, .int (yw v7)), (8, .int (yw v8))]) (st' := [.int (yw v8)]) rfl ?_
    refine xZ.jf_le (me := xm152) hP_152 rfl (fun h1 => ?_) (fun h1 => ?_)
    · skip
      exact (k_f_LDates_ctor_153 O f d K59 hK59 v0 v1 v2 v3 v4 v5 v6 v7 v8 M)
    · skip
      refine xZ.adv (me := xm152) hP_152 1 (pc' := 124) (lv' := [(0, .ref v0), (1, .ref v1), (2, .int (yw v2)), (3, .int (yw v3)), (4, .int (yw v4)), (5, .int (yw v5)), (6, .int (yw v6)), (7, .int (yw v7)), (8, .int (yw v8))]) (st' := [.ref v0]) rfl ?_
      refine xZ.k_gR (me := xm152) hP_152 rfl (fun x1 => ?_)
      refine xZ.adv (me := xm152) hP_152 3 (pc' := 131) (lv' := [(0, .ref v0), (1, .ref v1), (2, .int (yw v2)), (3, .int (yw v3)), (4, .int (yw v4)), (5, .int (yw v5)), (6, .int (yw v6)), (7, .int (yw v7)), (8, .int (yw v8))]) (st' := [.int ((yw v8) - (1 : Int32)), .ref x1]) rfl ?_
      refine xZ.eqs (lv2 := [(0, .ref v0), (1, .ref v1), (2, .int (yw v2)), (3, .int (yw v3)), (4, .int (yw v4)), (5, .int (yw v5)), (6, .int (yw v6)), (7, .int (yw v7)), (8, .int (yw v8))]) (st2 := [.int (yw (v8 - 1)), .ref x1]) rfl (by simp only [yl_lit, yL_lit, yw_add, yw_sub, yw_mul, yw_neg, yl_add, yl_sub, yl_mul, cj_and, cj_or, cj_xor, cj_shl, cj_shr, cj_ushr, cj_div, cj_i2c, cj_i2b, cj_dc, ck_and, ck_or, ck_xor, ck_shl, ck_shr, ck_ushr, ck_i2l, ck_l2i, ck_cmp]) ?_
      refine xZ.k_aJ (me := xm152) hP_152 rfl (fun x2 => ?_)
      refine xZ.adv (me := xm152) hP_152 1 (pc' := 134) (lv' := [(0, .ref v0), (1, .ref v1), (2, .int (yw v2)), (3, .int (yw v3)), (4, .int (yw v4)), (5, .int (yw v5)), (6, .int (yw v6)), (7, .int (yw v7)), (8, .int (yw v8))]) (st' := [.int (yw v7), .int (yw x2)]) rfl ?_
      refine xZ.jc_le (me := xm152) hP_152 rfl (fun h2 => ?_) (fun h2 => ?_)
      · skip
        exact (k_f_LDates_ctor_153 O f d K59 hK59 v0 v1 v2 v3 v4 v5 v6 v7 v8 M)
      · skip
        refine xZ.adv (me := xm152) hP_152 5 (pc' := 144) (lv' := [(0, .ref v0), (1, .ref v1), (2, .int (yw v2)), (3, .int (yw v3)), (4, .int (yw v4)), (5, .int (yw v5)), (6, .int (yw v6)), (7, .int (yw v7)), (8, .int (yw v8))]) (st' := [.int (yw v8), .int ((yw v8) - (1 : Int32)), .ref v0]) rfl ?_
        refine xZ.eqs (lv2 := [(0, .ref v0), (1, .ref v1), (2, .int (yw v2)), (3, .int (yw v3)), (4, .int (yw v4)), (5, .int (yw v5)), (6, .int (yw v6)), (7, .int (yw v7)), (8, .int (yw v8))]) (st2 := [.int (yw v8), .int (yw (v8 - 1)), .ref v0]) rfl (by simp only [yl_lit, yL_lit, yw_add, yw_sub, yw_mul, yw_neg, yl_add, yl_sub, yl_mul, cj_and, cj_or, cj_xor, cj_shl, cj_shr, cj_ushr, cj_div, cj_i2c, cj_i2b, cj_dc, ck_and, ck_or, ck_xor, ck_shl, ck_shr, ck_ushr, ck_i2l, ck_l2i, ck_cmp]) ?_
        refine xZ.callv (κ := oU) (av := [.int (yw (v8 - 1)), .int (yw v8)]) (rest := []) (st' := fun _ => []) (k0 := v0) (me := xm152) hP_152 rfl (Or.inl rfl) ⟨rfl, by decide⟩ rfl rfl (Nat.le_of_ble_eq_true rfl) (by decide) hP_153 (Nat.le_of_ble_eq_true rfl) (fun _ => rfl) (k_f_LDates_copies O f (d + 5) v0 (v8 - 1) v8 M) (fun _ M1 => ?_)
        refine xZ.adv (me := xm152) hP_152 2 (pc' := 118) (lv' := [(8, .int ((yw v8) + (-1 : Int32))), (0, .ref v0), (1, .ref v1), (2, .int (yw v2)), (3, .int (yw v3)), (4, .int (yw v4)), (5, .int (yw v5)), (6, .int (yw v6)), (7, .int (yw v7))]) (st' := []) rfl ?_
        refine xZ.eqs (lv2 := [(8, .int (yw (v8 + (-1)))), (0, .ref v0), (1, .ref v1), (2, .int (yw v2)), (3, .int (yw v3)), (4, .int (yw v4)), (5, .int (yw v5)), (6, .int (yw v6)), (7, .int (yw v7))]) (st2 := []) (by simp only [yl_lit, yL_lit, yw_add, yw_sub, yw_mul, yw_neg, yl_add, yl_sub, yl_mul, cj_and, cj_or, cj_xor, cj_shl, cj_shr, cj_ushr, cj_div, cj_i2c, cj_i2b, cj_dc, ck_and, ck_or, ck_xor, ck_shl, ck_shr, ck_ushr, ck_i2l, ck_l2i, ck_cmp]) rfl ?_
        exact xZ.sub (xsc (.tail _ (.head _)) (xsc (.tail _ (.tail _ (.head _))) (xsc (.tail _ (.tail _ (.tail _ (.head _)))) (xsc (.tail _ (.tail _ (.tail _ (.tail _ (.head _))))) (xsc (.tail _ (.tail _ (.tail _ (.tail _ (.tail _ (.head _)))))) (xsc (.tail _ (.tail _ (.tail _ (.tail _ (.tail _ (.tail _ (.head _))))))) (xsc (.tail _ (.tail _ (.tail _ (.tail _ (.tail _ (.tail _ (.tail _ (.head _)))))))) (xsc (.tail _ (.tail _ (.tail _ (.tail _ (.tail _ (.tail _ (.tail _ (.tail _ (.head _))))))))) (xsc (.head _) xsn))))))))) (show ([8, 0, 1, 2, 3, 4, 5, 6, 7] : List Nat).Nodup from by decide) (ih v0 v1 v2 v3 v4 v5 v6 v7 (v8 + (-1)) M1)
def f_LDates_ctor_59 (O : Nat → Option va_E) (f : Nat) (K43 : Nat → Nat → Int → Int → Int → Int → xM → Option (Unit × xM)) : Nat → Nat → Nat → Int → Int → Int → Int → Int → xM → Option (Unit × xM)
  | 0, _, _, _, _, _, _, _, _ => none
  | n + 1, v0, v1, v2, v3, v4, v5, v6, M =>
    if yw v6 = yw (-1) then (
      K43 v0 v1 v2 v3 v4 (v5 + 1) M
    ) else
    if yw (v4 + 6000) ≤ yw (1440 * v6) then (
      K43 v0 v1 v2 v3 v4 (v5 + 1) M
    ) else
    (isO O M v1 12).bind fun _ =>
    xcl (f_Calendarhall_begin O f v1 v5 v6 M) fun x1 M1 =>
    if yw x1 = yw (-1) then (
      f_LDates_ctor_204 O f (f_LDates_ctor_59 O f K43 n) v0 v1 v2 v3 v4 v5 v6 M1
    ) else
    if yw x1 < yw v3 then (
      f_LDates_ctor_204 O f (f_LDates_ctor_59 O f K43 n) v0 v1 v2 v3 v4 v5 v6 M1
    ) else
    if yw x1 < yw v4 then (
      (gJ O M1 v0 13 4).bind fun x2 =>
      f_LDates_ctor_118 O f (f_LDates_ctor_59 O f K43 n) f v0 v1 v2 v3 v4 v5 v6 x1 x2 M1
    ) else
    f_LDates_ctor_204 O f (f_LDates_ctor_59 O f K43 n) v0 v1 v2 v3 v4 v5 v6 M1
set_option maxRecDepth 20000 in
theorem k_f_LDates_ctor_59 (O : Nat → Option va_E) (f d : Nat) (K43 : Nat → Nat → Int → Int → Int → Int → xM → Option (Unit × xM)) (hK43 : ∀ (v0 : Nat) (v1 : Nat) (v2 : Int) (v3 : Int) (v4 : Int) (v5 : Int) M, xZ oU O (d + 6) 152 43 [(0, .ref v0), (1, .ref v1), (2, .int (yw v2)), (3, .int (yw v3)), (4, .int (yw v4)), (5, .int (yw v5))] [] M (K43 v0 v1 v2 v3 v4 v5 M)) : ∀ (n : Nat) (v0 : Nat) (v1 : Nat) (v2 : Int) (v3 : Int) (v4 : Int) (v5 : Int) (v6 : Int) (M : xM), xZ oU O (d + 6) 152 59 [(0, .ref v0), (1, .ref v1), (2, .int (yw v2)), (3, .int (yw v3)), (4, .int (yw v4)), (5, .int (yw v5)), (6, .int (yw v6))] [] M (f_LDates_ctor_59 O f K43 n v0 v1 v2 v3 v4 v5 v6 M) := by
  intro n
  induction n with
  | zero =>
    intro v0 v1 v2 v3 v4 v5 v6 M
    exact xZ.no
  | succ n ih =>
    intro v0 v1 v2 v3 v4 v5 v6 M
    unfold f_LDates_ctor_59
    refine xZ.adv (me := xm152) hP_152 2 (pc' := 62) (lv' := [(0, .ref v0), (1, .ref v1), (2, .int (yw v2)), (3, .int (yw v3)), (4, .int (yw v4)), (5, .int (yw v5)), (6, .int (yw v6))]) (st' := [.int (-1 : Int32), .int (yw v6)]) rfl ?_
    refine xZ.eqs (lv2 := [(0, .ref v0), (1, .ref v1), (2, .int (yw v2)), (3, .int (yw v3)), (4, .int (yw v4)), (5, .int (yw v5)), (6, .int (yw v6))]) (st2 := [.int (yw (-1)), .int (yw v6)]) rfl (by simp only [yl_lit, yL_lit, yw_add, yw_sub, yw_mul, yw_neg, yl_add, yl_sub, yl_mul, cj_and, cj_or, cj_xor, cj_shl, cj_shr, cj_ushr, cj_div, cj_i2c, cj_i2b, cj_dc, ck_and, ck_or, ck_xor, ck_shl, ck_shr, ck_ushr, ck_i2l, ck_l2i, ck_cmp]) ?_
    refine xZ.jc_eq (me := xm152) hP_152 rfl (fun h1 => ?_) (fun h1 => ?_)
    · skip
      refine xZ.adv (me := xm152) hP_152 2 (pc' := 43) (lv' := [(5, .int ((yw v5) + (1 : Int32))), (0, .ref v0), (1, .ref v1), (2, .int (yw v2)), (3, .int (yw v3)), (4, .int (yw v4)), (6, .int (yw v6))]) (st' := []) rfl ?_
      refine xZ.eqs (lv2 := [(5, .int (yw (v5 + 1))), (0, .ref v0), (1, .ref v1), (2, .int (yw v2)), (3, .int (yw v3)), (4, .int (yw v4)), (6, .int (yw v6))]) (st2 := []) (by simp only [yl_lit, yL_lit, yw_add, yw_sub, yw_mul, yw_neg, yl_add, yl_sub, yl_mul, cj_and, cj_or, cj_xor, cj_shl, cj_shr, cj_ushr, cj_div, cj_i2c, cj_i2b, cj_dc, ck_and, ck_or, ck_xor, ck_shl, ck_shr, ck_ushr, ck_i2l, ck_l2i, ck_cmp]) rfl ?_
      exact xZ.sub (xsc (.tail _ (.head _)) (xsc (.tail _ (.tail _ (.head _))) (xsc (.tail _ (.tail _ (.tail _ (.head _)))) (xsc (.tail _ (.tail _ (.tail _ (.tail _ (.head _))))) (xsc (.tail _ (.tail _ (.tail _ (.tail _ (.tail _ (.head _)))))) (xsc (.head _) xsn)))))) (show ([5, 0, 1, 2, 3, 4, 6] : List Nat).Nodup from by decide) (hK43 v0 v1 v2 v3 v4 (v5 + 1) M)
    · skip
      refine xZ.adv (me := xm152) hP_152 6 (pc' := 77) (lv' := [(0, .ref v0), (1, .ref v1), (2, .int (yw v2)), (3, .int (yw v3)), (4, .int (yw v4)), (5, .int (yw v5)), (6, .int (yw v6))]) (st' := [.int ((yw v4) + (6000 : Int32)), .int ((1440 : Int32) * (yw v6))]) rfl ?_
      refine xZ.eqs (lv2 := [(0, .ref v0), (1, .ref v1), (2, .int (yw v2)), (3, .int (yw v3)), (4, .int (yw v4)), (5, .int (yw v5)), (6, .int (yw v6))]) (st2 := [.int (yw (v4 + 6000)), .int (yw (1440 * v6))]) rfl (by simp only [yl_lit, yL_lit, yw_add, yw_sub, yw_mul, yw_neg, yl_add, yl_sub, yl_mul, cj_and, cj_or, cj_xor, cj_shl, cj_shr, cj_ushr, cj_div, cj_i2c, cj_i2b, cj_dc, ck_and, ck_or, ck_xor, ck_shl, ck_shr, ck_ushr, ck_i2l, ck_l2i, ck_cmp]) ?_
      refine xZ.jc_ge (me := xm152) hP_152 rfl (fun h2 => ?_) (fun h2 => ?_)
      · skip
        refine xZ.adv (me := xm152) hP_152 2 (pc' := 43) (lv' := [(5, .int ((yw v5) + (1 : Int32))), (0, .ref v0), (1, .ref v1), (2, .int (yw v2)), (3, .int (yw v3)), (4, .int (yw v4)), (6, .int (yw v6))]) (st' := []) rfl ?_
        refine xZ.eqs (lv2 := [(5, .int (yw (v5 + 1))), (0, .ref v0), (1, .ref v1), (2, .int (yw v2)), (3, .int (yw v3)), (4, .int (yw v4)), (6, .int (yw v6))]) (st2 := []) (by simp only [yl_lit, yL_lit, yw_add, yw_sub, yw_mul, yw_neg, yl_add, yl_sub, yl_mul, cj_and, cj_or, cj_xor, cj_shl, cj_shr, cj_ushr, cj_div, cj_i2c, cj_i2b, cj_dc, ck_and, ck_or, ck_xor, ck_shl, ck_shr, ck_ushr, ck_i2l, ck_l2i, ck_cmp]) rfl ?_
        exact xZ.sub (xsc (.tail _ (.head _)) (xsc (.tail _ (.tail _ (.head _))) (xsc (.tail _ (.tail _ (.tail _ (.head _)))) (xsc (.tail _ (.tail _ (.tail _ (.tail _ (.head _))))) (xsc (.tail _ (.tail _ (.tail _ (.tail _ (.tail _ (.head _)))))) (xsc (.head _) xsn)))))) (show ([5, 0, 1, 2, 3, 4, 6] : List Nat).Nodup from by decide) (hK43 v0 v1 v2 v3 v4 (v5 + 1) M)
      · skip
        refine xZ.adv (me := xm152) hP_152 3 (pc' := 85) (lv' := [(0, .ref v0), (1, .ref v1), (2, .int (yw v2)), (3, .int (yw v3)), (4, .int (yw v4)), (5, .int (yw v5)), (6, .int (yw v6))]) (st' := [.int (yw v6), .int (yw v5), .ref v1]) rfl ?_
        refine xZ.callv (κ := oJ) (av := [.int (yw v5), .int (yw v6)]) (rest := []) (st' := fun x1 => [.int (yw x1)]) (k0 := v1) (me := xm152) hP_152 rfl (Or.inl rfl) ⟨rfl, by decide⟩ rfl rfl (Nat.le_of_ble_eq_true rfl) (by decide) hP_98 (Nat.le_of_ble_eq_true rfl) (fun _ => rfl) (k_f_Calendarhall_begin O f (d + 0) v1 v5 v6 M) (fun x1 M1 => ?_)
        refine xZ.adv (me := xm152) hP_152 3 (pc' := 93) (lv' := [(7, .int (yw x1)), (0, .ref v0), (1, .ref v1), (2, .int (yw v2)), (3, .int (yw v3)), (4, .int (yw v4)), (5, .int (yw v5)), (6, .int (yw v6))]) (st' := [.int (-1 : Int32), .int (yw x1)]) rfl ?_
        refine xZ.eqs (lv2 := [(7, .int (yw x1)), (0, .ref v0), (1, .ref v1), (2, .int (yw v2)), (3, .int (yw v3)), (4, .int (yw v4)), (5, .int (yw v5)), (6, .int (yw v6))]) (st2 := [.int (yw (-1)), .int (yw x1)]) rfl (by simp only [yl_lit, yL_lit, yw_add, yw_sub, yw_mul, yw_neg, yl_add, yl_sub, yl_mul, cj_and, cj_or, cj_xor, cj_shl, cj_shr, cj_ushr, cj_div, cj_i2c, cj_i2b, cj_dc, ck_and, ck_or, ck_xor, ck_shl, ck_shr, ck_ushr, ck_i2l, ck_l2i, ck_cmp]) ?_
        refine xZ.jc_eq (me := xm152) hP_152 rfl (fun h3 => ?_) (fun h3 => ?_)
        · skip
          exact xZ.sub (xsc (.tail _ (.head _)) (xsc (.tail _ (.tail _ (.head _))) (xsc (.tail _ (.tail _ (.tail _ (.head _)))) (xsc (.tail _ (.tail _ (.tail _ (.tail _ (.head _))))) (xsc (.tail _ (.tail _ (.tail _ (.tail _ (.tail _ (.head _)))))) (xsc (.tail _ (.tail _ (.tail _ (.tail _ (.tail _ (.tail _ (.head _))))))) (xsc (.tail _ (.tail _ (.tail _ (.tail _ (.tail _ (.tail _ (.tail _ (.head _)))))))) xsn))))))) (show ([7, 0, 1, 2, 3, 4, 5, 6] : List Nat).Nodup from by decide) (k_f_LDates_ctor_204 O f d (f_LDates_ctor_59 O f K43 n) ih v0 v1 v2 v3 v4 v5 v6 M1)
        · skip
          refine xZ.adv (me := xm152) hP_152 2 (pc' := 99) (lv' := [(7, .int (yw x1)), (0, .ref v0), (1, .ref v1), (2, .int (yw v2)), (3, .int (yw v3)), (4, .int (yw v4)), (5, .int (yw v5)), (6, .int (yw v6))]) (st' := [.int (yw v3), .int (yw x1)]) rfl ?_
          refine xZ.jc_lt (me := xm152) hP_152 rfl (fun h4 => ?_) (fun h4 => ?_)
          · skip
            exact xZ.sub (xsc (.tail _ (.head _)) (xsc (.tail _ (.tail _ (.head _))) (xsc (.tail _ (.tail _ (.tail _ (.head _)))) (xsc (.tail _ (.tail _ (.tail _ (.tail _ (.head _))))) (xsc (.tail _ (.tail _ (.tail _ (.tail _ (.tail _ (.head _)))))) (xsc (.tail _ (.tail _ (.tail _ (.tail _ (.tail _ (.tail _ (.head _))))))) (xsc (.tail _ (.tail _ (.tail _ (.tail _ (.tail _ (.tail _ (.tail _ (.head _)))))))) xsn))))))) (show ([7, 0, 1, 2, 3, 4, 5, 6] : List Nat).Nodup from by decide) (k_f_LDates_ctor_204 O f d (f_LDates_ctor_59 O f K43 n) ih v0 v1 v2 v3 v4 v5 v6 M1)
          · skip
            refine xZ.adv (me := xm152) hP_152 2 (pc' := 106) (lv' := [(7, .int (yw x1)), (0, .ref v0), (1, .ref v1), (2, .int (yw v2)), (3, .int (yw v3)), (4, .int (yw v4)), (5, .int (yw v5)), (6, .int (yw v6))]) (st' := [.int (yw v4), .int (yw x1)]) rfl ?_
            refine xZ.jc_lt (me := xm152) hP_152 rfl (fun h5 => ?_) (fun h5 => ?_)
            · skip
              refine xZ.adv (me := xm152) hP_152 1 (pc' := 113) (lv' := [(7, .int (yw x1)), (0, .ref v0), (1, .ref v1), (2, .int (yw v2)), (3, .int (yw v3)), (4, .int (yw v4)), (5, .int (yw v5)), (6, .int (yw v6))]) (st' := [.ref v0]) rfl ?_
              refine xZ.k_gJ (me := xm152) hP_152 rfl (fun x2 => ?_)
              refine xZ.adv (me := xm152) hP_152 1 (pc' := 118) (lv' := [(8, .int (yw x2)), (7, .int (yw x1)), (0, .ref v0), (1, .ref v1), (2, .int (yw v2)), (3, .int (yw v3)), (4, .int (yw v4)), (5, .int (yw v5)), (6, .int (yw v6))]) (st' := []) rfl ?_
              exact xZ.sub (xsc (.tail _ (.tail _ (.head _))) (xsc (.tail _ (.tail _ (.tail _ (.head _)))) (xsc (.tail _ (.tail _ (.tail _ (.tail _ (.head _))))) (xsc (.tail _ (.tail _ (.tail _ (.tail _ (.tail _ (.head _)))))) (xsc (.tail _ (.tail _ (.tail _ (.tail _ (.tail _ (.tail _ (.head _))))))) (xsc (.tail _ (.tail _ (.tail _ (.tail _ (.tail _ (.tail _ (.tail _ (.head _)))))))) (xsc (.tail _ (.tail _ (.tail _ (.tail _ (.tail _ (.tail _ (.tail _ (.tail _ (.head _))))))))) (xsc (.tail _ (.head _)) (xsc (.head _) xsn))))))))) (show ([8, 7, 0, 1, 2, 3, 4, 5, 6] : List Nat).Nodup from by decide) (k_f_LDates_ctor_118 O f d (f_LDates_ctor_59 O f K43 n) ih f v0 v1 v2 v3 v4 v5 v6 x1 x2 M1)
            · skip
              refine xZ.adv (me := xm152) hP_152 1 (pc' := 204) (lv' := [(7, .int (yw x1)), (0, .ref v0), (1, .ref v1), (2, .int (yw v2)), (3, .int (yw v3)), (4, .int (yw v4)), (5, .int (yw v5)), (6, .int (yw v6))]) (st' := []) rfl ?_
              exact xZ.sub (xsc (.tail _ (.head _)) (xsc (.tail _ (.tail _ (.head _))) (xsc (.tail _ (.tail _ (.tail _ (.head _)))) (xsc (.tail _ (.tail _ (.tail _ (.tail _ (.head _))))) (xsc (.tail _ (.tail _ (.tail _ (.tail _ (.tail _ (.head _)))))) (xsc (.tail _ (.tail _ (.tail _ (.tail _ (.tail _ (.tail _ (.head _))))))) (xsc (.tail _ (.tail _ (.tail _ (.tail _ (.tail _ (.tail _ (.tail _ (.head _)))))))) xsn))))))) (show ([7, 0, 1, 2, 3, 4, 5, 6] : List Nat).Nodup from by decide) (k_f_LDates_ctor_204 O f d (f_LDates_ctor_59 O f K43 n) ih v0 v1 v2 v3 v4 v5 v6 M1)
def f_LDates_ctor_43 (O : Nat → Option va_E) (f : Nat) : Nat → Nat → Nat → Int → Int → Int → Int → xM → Option (Unit × xM)
  | 0, _, _, _, _, _, _, _ => none
  | n + 1, v0, v1, v2, v3, v4, v5, M =>
    if yw v2 ≤ yw v5 then (
      some ((), M)
    ) else
    (isO O M v1 12).bind fun _ =>
    xcl (f_Calendarhall_nextDay O f v1 v5 10 M) fun x1 M1 =>
    f_LDates_ctor_59 O f (f_LDates_ctor_43 O f n) f v0 v1 v2 v3 v4 v5 x1 M1
set_option maxRecDepth 20000 in
theorem k_f_LDates_ctor_43 (O : Nat → Option va_E) (f d : Nat) : ∀ (n : Nat) (v0 : Nat) (v1 : Nat) (v2 : Int) (v3 : Int) (v4 : Int) (v5 : Int) (M : xM), xZ oU O (d + 6) 152 43 [(0, .ref v0), (1, .ref v1), (2, .int (yw v2)), (3, .int (yw v3)), (4, .int (yw v4)), (5, .int (yw v5))] [] M (f_LDates_ctor_43 O f n v0 v1 v2 v3 v4 v5 M) := by
  intro n
  induction n with
  | zero =>
    intro v0 v1 v2 v3 v4 v5 M
    exact xZ.no
  | succ n ih =>
    intro v0 v1 v2 v3 v4 v5 M
    unfold f_LDates_ctor_43
    refine xZ.adv (me := xm152) hP_152 2 (pc' := 46) (lv' := [(0, .ref v0), (1, .ref v1), (2, .int (yw v2)), (3, .int (yw v3)), (4, .int (yw v4)), (5, .int (yw v5))]) (st' := [.int (yw v2), .int (yw v5)]) rfl ?_
    refine xZ.jc_ge (me := xm152) hP_152 rfl (fun h1 => ?_) (fun h1 => ?_)
    · skip
      exact xZ.retu (me := xm152) hP_152 rfl rfl
    · skip
      refine xZ.adv (me := xm152) hP_152 3 (pc' := 54) (lv' := [(0, .ref v0), (1, .ref v1), (2, .int (yw v2)), (3, .int (yw v3)), (4, .int (yw v4)), (5, .int (yw v5))]) (st' := [.int (10 : Int32), .int (yw v5), .ref v1]) rfl ?_
      refine xZ.eqs (lv2 := [(0, .ref v0), (1, .ref v1), (2, .int (yw v2)), (3, .int (yw v3)), (4, .int (yw v4)), (5, .int (yw v5))]) (st2 := [.int (yw 10), .int (yw v5), .ref v1]) rfl (by simp only [yl_lit, yL_lit, yw_add, yw_sub, yw_mul, yw_neg, yl_add, yl_sub, yl_mul, cj_and, cj_or, cj_xor, cj_shl, cj_shr, cj_ushr, cj_div, cj_i2c, cj_i2b, cj_dc, ck_and, ck_or, ck_xor, ck_shl, ck_shr, ck_ushr, ck_i2l, ck_l2i, ck_cmp]) ?_
      refine xZ.callv (κ := oJ) (av := [.int (yw v5), .int (yw 10)]) (rest := []) (st' := fun x1 => [.int (yw x1)]) (k0 := v1) (me := xm152) hP_152 rfl (Or.inl rfl) ⟨rfl, by decide⟩ rfl rfl (Nat.le_of_ble_eq_true rfl) (by decide) hP_91 (Nat.le_of_ble_eq_true rfl) (fun _ => rfl) (k_f_Calendarhall_nextDay O f (d + 0) v1 v5 10 M) (fun x1 M1 => ?_)
      refine xZ.adv (me := xm152) hP_152 1 (pc' := 59) (lv' := [(6, .int (yw x1)), (0, .ref v0), (1, .ref v1), (2, .int (yw v2)), (3, .int (yw v3)), (4, .int (yw v4)), (5, .int (yw v5))]) (st' := []) rfl ?_
      exact xZ.sub (xsc (.tail _ (.head _)) (xsc (.tail _ (.tail _ (.head _))) (xsc (.tail _ (.tail _ (.tail _ (.head _)))) (xsc (.tail _ (.tail _ (.tail _ (.tail _ (.head _))))) (xsc (.tail _ (.tail _ (.tail _ (.tail _ (.tail _ (.head _)))))) (xsc (.tail _ (.tail _ (.tail _ (.tail _ (.tail _ (.tail _ (.head _))))))) (xsc (.head _) xsn))))))) (show ([6, 0, 1, 2, 3, 4, 5] : List Nat).Nodup from by decide) (k_f_LDates_ctor_59 O f d (f_LDates_ctor_43 O f n) ih f v0 v1 v2 v3 v4 v5 x1 M1)
def f_LDates_ctor (O : Nat → Option va_E) (f : Nat) (v0 : Nat) (v1 : Nat) (v2 : Int) (v3 : Int) (v4 : Int) (M : xM) : Option (Unit × xM) :=
  xcl (nAJ M 0 300) fun x1 M1 =>
  (pR M1 v0 13 0 (some x1)).bind fun M2 =>
  xcl (nAJ M2 0 300) fun x2 M3 =>
  (pR M3 v0 13 1 (some x2)).bind fun M4 =>
  xcl (nAJ M4 0 300) fun x3 M5 =>
  (pR M5 v0 13 2 (some x3)).bind fun M6 =>
  xcl (nAJ M6 0 300) fun x4 M7 =>
  (pR M7 v0 13 3 (some x4)).bind fun M8 =>
  f_LDates_ctor_43 O f f v0 v1 v2 v3 v4 0 M8
set_option maxRecDepth 20000 in
theorem k_f_LDates_ctor (O : Nat → Option va_E) (f d : Nat) (v0 : Nat) (v1 : Nat) (v2 : Int) (v3 : Int) (v4 : Int) (M : xM) : xZ oU O (d + 6) 152 0 [(0, .ref v0), (1, .ref v1), (2, .int (yw v2)), (3, .int (yw v3)), (4, .int (yw v4))] [] M (f_LDates_ctor O f v0 v1 v2 v3 v4 M) := by
  unfold f_LDates_ctor
  refine xZ.adv (me := xm152) hP_152 1 (pc' := 1) (lv' := [(0, .ref v0), (1, .ref v1), (2, .int (yw v2)), (3, .int (yw v3)), (4, .int (yw v4))]) (st' := [.ref v0]) rfl ?_
  refine xZ.obj (me := xm152) hP_152 rfl (Nat.le_of_ble_eq_true rfl) ?_
  refine xZ.adv (me := xm152) hP_152 2 (pc' := 8) (lv' := [(0, .ref v0), (1, .ref v1), (2, .int (yw v2)), (3, .int (yw v3)), (4, .int (yw v4))]) (st' := [.int (300 : Int32), .ref v0]) rfl ?_
  refine xZ.eqs (lv2 := [(0, .ref v0), (1, .ref v1), (2, .int (yw v2)), (3, .int (yw v3)), (4, .int (yw v4))]) (st2 := [.int (yw 300), .ref v0]) rfl (by simp only [yl_lit, yL_lit, yw_add, yw_sub, yw_mul, yw_neg, yl_add, yl_sub, yl_mul, cj_and, cj_or, cj_xor, cj_shl, cj_shr, cj_ushr, cj_div, cj_i2c, cj_i2b, cj_dc, ck_and, ck_or, ck_xor, ck_shl, ck_shr, ck_ushr, ck_i2l, ck_l2i, ck_cmp]) ?_
  refine xZ.k_nAJ (me := xm152) hP_152 rfl rfl (by decide) (fun x1 M1 => ?_)
  refine xZ.k_pR (x := (some x1)) (me := xm152) hP_152 rfl (fun M2 => ?_)
  refine xZ.adv (me := xm152) hP_152 2 (pc' := 17) (lv' := [(0, .ref v0), (1, .ref v1), (2, .int (yw v2)), (3, .int (yw v3)), (4, .int (yw v4))]) (st' := [.int (300 : Int32), .ref v0]) rfl ?_
  refine xZ.eqs (lv2 := [(0, .ref v0), (1, .ref v1), (2, .int (yw v2)), (3, .int (yw v3)), (4, .int (yw v4))]) (st2 := [.int (yw 300), .ref v0]) rfl (by simp only [yl_lit, yL_lit, yw_add, yw_sub, yw_mul, yw_neg, yl_add, yl_sub, yl_mul, cj_and, cj_or, cj_xor, cj_shl, cj_shr, cj_ushr, cj_div, cj_i2c, cj_i2b, cj_dc, ck_and, ck_or, ck_xor, ck_shl, ck_shr, ck_ushr, ck_i2l, ck_l2i, ck_cmp]) ?_
  refine xZ.k_nAJ (me := xm152) hP_152 rfl rfl (by decide) (fun x2 M3 => ?_)
  refine xZ.k_pR (x := (some x2)) (me := xm152) hP_152 rfl (fun M4 => ?_)
  refine xZ.adv (me := xm152) hP_152 2 (pc' := 26) (lv' := [(0, .ref v0), (1, .ref v1), (2, .int (yw v2)), (3, .int (yw v3)), (4, .int (yw v4))]) (st' := [.int (300 : Int32), .ref v0]) rfl ?_
  refine xZ.eqs (lv2 := [(0, .ref v0), (1, .ref v1), (2, .int (yw v2)), (3, .int (yw v3)), (4, .int (yw v4))]) (st2 := [.int (yw 300), .ref v0]) rfl (by simp only [yl_lit, yL_lit, yw_add, yw_sub, yw_mul, yw_neg, yl_add, yl_sub, yl_mul, cj_and, cj_or, cj_xor, cj_shl, cj_shr, cj_ushr, cj_div, cj_i2c, cj_i2b, cj_dc, ck_and, ck_or, ck_xor, ck_shl, ck_shr, ck_ushr, ck_i2l, ck_l2i, ck_cmp]) ?_
  refine xZ.k_nAJ (me := xm152) hP_152 rfl rfl (by decide) (fun x3 M5 => ?_)
  refine xZ.k_pR (x := (some x3)) (me := xm152) hP_152 rfl (fun M6 => ?_)
  refine xZ.adv (me := xm152) hP_152 2 (pc' := 35) (lv' := [(0, .ref v0), (1, .ref v1), (2, .int (yw v2)), (3, .int (yw v3)), (4, .int (yw v4))]) (st' := [.int (300 : Int32), .ref v0]) rfl ?_
  refine xZ.eqs (lv2 := [(0, .ref v0), (1, .ref v1), (2, .int (yw v2)), (3, .int (yw v3)), (4, .int (yw v4))]) (st2 := [.int (yw 300), .ref v0]) rfl (by simp only [yl_lit, yL_lit, yw_add, yw_sub, yw_mul, yw_neg, yl_add, yl_sub, yl_mul, cj_and, cj_or, cj_xor, cj_shl, cj_shr, cj_ushr, cj_div, cj_i2c, cj_i2b, cj_dc, ck_and, ck_or, ck_xor, ck_shl, ck_shr, ck_ushr, ck_i2l, ck_l2i, ck_cmp]) ?_
  refine xZ.k_nAJ (me := xm152) hP_152 rfl rfl (by decide) (fun x4 M7 => ?_)
  refine xZ.k_pR (x := (some x4)) (me := xm152) hP_152 rfl (fun M8 => ?_)
  refine xZ.adv (me := xm152) hP_152 2 (pc' := 43) (lv' := [(5, .int (0 : Int32)), (0, .ref v0), (1, .ref v1), (2, .int (yw v2)), (3, .int (yw v3)), (4, .int (yw v4))]) (st' := []) rfl ?_
  refine xZ.eqs (lv2 := [(5, .int (yw 0)), (0, .ref v0), (1, .ref v1), (2, .int (yw v2)), (3, .int (yw v3)), (4, .int (yw v4))]) (st2 := []) (by simp only [yl_lit, yL_lit, yw_add, yw_sub, yw_mul, yw_neg, yl_add, yl_sub, yl_mul, cj_and, cj_or, cj_xor, cj_shl, cj_shr, cj_ushr, cj_div, cj_i2c, cj_i2b, cj_dc, ck_and, ck_or, ck_xor, ck_shl, ck_shr, ck_ushr, ck_i2l, ck_l2i, ck_cmp]) rfl ?_
  exact xZ.sub (xsc (.tail _ (.head _)) (xsc (.tail _ (.tail _ (.head _))) (xsc (.tail _ (.tail _ (.tail _ (.head _)))) (xsc (.tail _ (.tail _ (.tail _ (.tail _ (.head _))))) (xsc (.tail _ (.tail _ (.tail _ (.tail _ (.tail _ (.head _)))))) (xsc (.head _) xsn)))))) (show ([5, 0, 1, 2, 3, 4] : List Nat).Nodup from by decide) (k_f_LDates_ctor_43 O f d f v0 v1 v2 v3 v4 0 M8)
def f_LDates_end (O : Nat → Option va_E) (f : Nat) (v0 : Nat) (v1 : Int) (M : xM) : Option (Int × xM) :=
  (gR O M v0 13 2).bind fun x1 =>
  (aJ O M x1 v1).bind fun x2 =>
  (gR O M v0 13 3).bind fun x3 =>
  (aJ O M x3 v1).bind fun x4 =>
  some ((x2 + x4), M)
set_option maxRecDepth 20000 in
theorem k_f_LDates_end (O : Nat → Option va_E) (f d : Nat) (v0 : Nat) (v1 : Int) (M : xM) : xZ oJ O (d + 0) 154 0 [(0, .ref v0), (1, .int (yw v1))] [] M (f_LDates_end O f v0 v1 M) := by
  unfold f_LDates_end
  refine xZ.adv (me := xm154) hP_154 1 (pc' := 1) (lv' := [(0, .ref v0), (1, .int (yw v1))]) (st' := [.ref v0]) rfl ?_
  refine xZ.k_gR (me := xm154) hP_154 rfl (fun x1 => ?_)
  refine xZ.adv (me := xm154) hP_154 1 (pc' := 5) (lv' := [(0, .ref v0), (1, .int (yw v1))]) (st' := [.int (yw v1), .ref x1]) rfl ?_
  refine xZ.k_aJ (me := xm154) hP_154 rfl (fun x2 => ?_)
  refine xZ.adv (me := xm154) hP_154 1 (pc' := 7) (lv' := [(0, .ref v0), (1, .int (yw v1))]) (st' := [.ref v0, .int (yw x2)]) rfl ?_
  refine xZ.k_gR (me := xm154) hP_154 rfl (fun x3 => ?_)
  refine xZ.adv (me := xm154) hP_154 1 (pc' := 11) (lv' := [(0, .ref v0), (1, .int (yw v1))]) (st' := [.int (yw v1), .ref x3, .int (yw x2)]) rfl ?_
  refine xZ.k_aJ (me := xm154) hP_154 rfl (fun x4 => ?_)
  refine xZ.adv (me := xm154) hP_154 1 (pc' := 13) (lv' := [(0, .ref v0), (1, .int (yw v1))]) (st' := [.int ((yw x2) + (yw x4))]) rfl ?_
  refine xZ.eqs (lv2 := [(0, .ref v0), (1, .int (yw v1))]) (st2 := [.int (yw (x2 + x4))]) rfl (by simp only [yl_lit, yL_lit, yw_add, yw_sub, yw_mul, yw_neg, yl_add, yl_sub, yl_mul, cj_and, cj_or, cj_xor, cj_shl, cj_shr, cj_ushr, cj_div, cj_i2c, cj_i2b, cj_dc, ck_and, ck_or, ck_xor, ck_shl, ck_shr, ck_ushr, ck_i2l, ck_l2i, ck_cmp]) ?_
  exact xZ.jreti (me := xm154) hP_154 rfl rfl
def f_Calendarhall_answerOf (O : Nat → Option va_E) (f : Nat) (v0 : Nat) (v1 : Int) (v2 : Int) (M : xM) : Option (Int × xM) :=
  (isO O M v0 12).bind fun _ =>
  xcl (f_Calendarhall_seriesNumbered O f v0 v1 M) fun x1 M1 =>
  (isO O M1 v0 12).bind fun _ =>
  xcl (f_Calendarhall_personNumbered O f v0 v2 M1) fun x2 M2 =>
  (isO O M2 x1 10).bind fun _ =>
  xcl (f_Series_isInvited O f x1 v2 M2) fun x3 M3 =>
  if yw x3 = yw 0 then (
    some ((-1), M3)
  ) else
  (isO O M3 x1 10).bind fun _ =>
  xcl (f_Series_answerBy O f x1 v2 M3) fun x4 M4 =>
  some (x4, M4)
set_option maxRecDepth 20000 in
theorem k_f_Calendarhall_answerOf (O : Nat → Option va_E) (f d : Nat) (v0 : Nat) (v1 : Int) (v2 : Int) (M : xM) : xZ oJ O (d + 2) 156 0 [(0, .ref v0), (1, .int (yw v1)), (2, .int (yw v2))] [] M (f_Calendarhall_answerOf O f v0 v1 v2 M) := by
  unfold f_Calendarhall_answerOf
  refine xZ.adv (me := xm156) hP_156 2 (pc' := 2) (lv' := [(0, .ref v0), (1, .int (yw v1)), (2, .int (yw v2))]) (st' := [.int (yw v1), .ref v0]) rfl ?_
  refine xZ.callv (κ := oR) (av := [.int (yw v1)]) (rest := []) (st' := fun x1 => [.ref x1]) (k0 := v0) (me := xm156) hP_156 rfl (Or.inl rfl) ⟨rfl, by decide⟩ rfl rfl (Nat.le_of_ble_eq_true rfl) (by decide) hP_79 (Nat.le_of_ble_eq_true rfl) (fun _ => rfl) (k_f_Calendarhall_seriesNumbered O f (d + 0) v0 v1 M) (fun x1 M1 => ?_)
  refine xZ.adv (me := xm156) hP_156 3 (pc' := 8) (lv' := [(3, .ref x1), (0, .ref v0), (1, .int (yw v1)), (2, .int (yw v2))]) (st' := [.int (yw v2), .ref v0]) rfl ?_
  refine xZ.callv (κ := oR) (av := [.int (yw v2)]) (rest := []) (st' := fun x2 => [.ref x2]) (k0 := v0) (me := xm156) hP_156 rfl (Or.inl rfl) ⟨rfl, by decide⟩ rfl rfl (Nat.le_of_ble_eq_true rfl) (by decide) hP_148 (Nat.le_of_ble_eq_true rfl) (fun _ => rfl) (k_f_Calendarhall_personNumbered O f (d + 0) v0 v2 M1) (fun x2 M2 => ?_)
  refine xZ.adv (me := xm156) hP_156 3 (pc' := 14) (lv' := [(3, .ref x1), (0, .ref v0), (1, .int (yw v1)), (2, .int (yw v2))]) (st' := [.int (yw v2), .ref x1]) rfl ?_
  refine xZ.callv (κ := oJ) (av := [.int (yw v2)]) (rest := []) (st' := fun x3 => [.int (yw x3)]) (k0 := x1) (me := xm156) hP_156 rfl (Or.inl rfl) ⟨rfl, by decide⟩ rfl rfl (Nat.le_of_ble_eq_true rfl) (by decide) hP_149 (Nat.le_of_ble_eq_true rfl) (fun _ => rfl) (k_f_Series_isInvited O f (d + 1) x1 v2 M2) (fun x3 M3 => ?_)
  refine xZ.jf_eq (me := xm156) hP_156 rfl (fun h1 => ?_) (fun h1 => ?_)
  · skip
    refine xZ.adv (me := xm156) hP_156 1 (pc' := 29) (lv' := [(3, .ref x1), (0, .ref v0), (1, .int (yw v1)), (2, .int (yw v2))]) (st' := [.int (-1 : Int32)]) rfl ?_
    refine xZ.eqs (lv2 := [(3, .ref x1), (0, .ref v0), (1, .int (yw v1)), (2, .int (yw v2))]) (st2 := [.int (yw (-1))]) rfl (by simp only [yl_lit, yL_lit, yw_add, yw_sub, yw_mul, yw_neg, yl_add, yl_sub, yl_mul, cj_and, cj_or, cj_xor, cj_shl, cj_shr, cj_ushr, cj_div, cj_i2c, cj_i2b, cj_dc, ck_and, ck_or, ck_xor, ck_shl, ck_shr, ck_ushr, ck_i2l, ck_l2i, ck_cmp]) ?_
    exact xZ.jreti (me := xm156) hP_156 rfl rfl
  · skip
    refine xZ.adv (me := xm156) hP_156 2 (pc' := 22) (lv' := [(3, .ref x1), (0, .ref v0), (1, .int (yw v1)), (2, .int (yw v2))]) (st' := [.int (yw v2), .ref x1]) rfl ?_
    refine xZ.callv (κ := oJ) (av := [.int (yw v2)]) (rest := []) (st' := fun x4 => [.int (yw x4)]) (k0 := x1) (me := xm156) hP_156 rfl (Or.inl rfl) ⟨rfl, by decide⟩ rfl rfl (Nat.le_of_ble_eq_true rfl) (by decide) hP_150 (Nat.le_of_ble_eq_true rfl) (fun _ => rfl) (k_f_Series_answerBy O f (d + 1) x1 v2 M3) (fun x4 M4 => ?_)
    refine xZ.adv (me := xm156) hP_156 1 (pc' := 29) (lv' := [(3, .ref x1), (0, .ref v0), (1, .int (yw v1)), (2, .int (yw v2))]) (st' := [.int (yw x4)]) rfl ?_
    exact xZ.jreti (me := xm156) hP_156 rfl rfl
def f_Law_takesPart (O : Nat → Option va_E) (f : Nat) (v0 : Nat) (v1 : Int) (v2 : Int) (M : xM) : Option (Int × xM) :=
  (isO O M v0 12).bind fun _ =>
  xcl (f_Calendarhall_seriesAt O f v0 v1 4 M) fun x1 M1 =>
  if yw (jand (jshr x1 (jand v2 31)) 1) = yw 1 then (
    (isO O M1 v0 12).bind fun _ =>
    xcl (f_Calendarhall_answerOf O f v0 v1 v2 M1) fun x2 M2 =>
    if yw x2 = yw 2 then (
      some (0, M2)
    ) else
    some (1, M2)
  ) else
  some (0, M1)
set_option maxRecDepth 20000 in
theorem k_f_Law_takesPart (O : Nat → Option va_E) (f d : Nat) (v0 : Nat) (v1 : Int) (v2 : Int) (M : xM) : xZ oJ O (d + 3) 155 0 [(0, .ref v0), (1, .int (yw v1)), (2, .int (yw v2))] [] M (f_Law_takesPart O f v0 v1 v2 M) := by
  unfold f_Law_takesPart
  refine xZ.adv (me := xm155) hP_155 3 (pc' := 3) (lv' := [(0, .ref v0), (1, .int (yw v1)), (2, .int (yw v2))]) (st' := [.int (4 : Int32), .int (yw v1), .ref v0]) rfl ?_
  refine xZ.eqs (lv2 := [(0, .ref v0), (1, .int (yw v1)), (2, .int (yw v2))]) (st2 := [.int (yw 4), .int (yw v1), .ref v0]) rfl (by simp only [yl_lit, yL_lit, yw_add, yw_sub, yw_mul, yw_neg, yl_add, yl_sub, yl_mul, cj_and, cj_or, cj_xor, cj_shl, cj_shr, cj_ushr, cj_div, cj_i2c, cj_i2b, cj_dc, ck_and, ck_or, ck_xor, ck_shl, ck_shr, ck_ushr, ck_i2l, ck_l2i, ck_cmp]) ?_
  refine xZ.callv (κ := oJ) (av := [.int (yw v1), .int (yw 4)]) (rest := []) (st' := fun x1 => [.int (yw x1)]) (k0 := v0) (me := xm155) hP_155 rfl (Or.inl rfl) ⟨rfl, by decide⟩ rfl rfl (Nat.le_of_ble_eq_true rfl) (by decide) hP_126 (Nat.le_of_ble_eq_true rfl) (fun _ => rfl) (k_f_Calendarhall_seriesAt O f (d + 0) v0 v1 4 M) (fun x1 M1 => ?_)
  refine xZ.adv (me := xm155) hP_155 5 (pc' := 11) (lv' := [(0, .ref v0), (1, .int (yw v1)), (2, .int (yw v2))]) (st' := [.int (1 : Int32), .int (((yw x1) >>> ((yw v2) &&& 31)) &&& (1 : Int32))]) rfl ?_
  refine xZ.eqs (lv2 := [(0, .ref v0), (1, .int (yw v1)), (2, .int (yw v2))]) (st2 := [.int (yw 1), .int (yw (jand (jshr x1 (jand v2 31)) 1))]) rfl (by simp only [yl_lit, yL_lit, yw_add, yw_sub, yw_mul, yw_neg, yl_add, yl_sub, yl_mul, cj_and, cj_or, cj_xor, cj_shl, cj_shr, cj_ushr, cj_div, cj_i2c, cj_i2b, cj_dc, ck_and, ck_or, ck_xor, ck_shl, ck_shr, ck_ushr, ck_i2l, ck_l2i, ck_cmp]) ?_
  refine xZ.jc_ne (me := xm155) hP_155 rfl (fun h1 => ?_) (fun h1 => ?_)
  · skip
    refine xZ.adv (me := xm155) hP_155 3 (pc' := 17) (lv' := [(0, .ref v0), (1, .int (yw v1)), (2, .int (yw v2))]) (st' := [.int (yw v2), .int (yw v1), .ref v0]) rfl ?_
    refine xZ.callv (κ := oJ) (av := [.int (yw v1), .int (yw v2)]) (rest := []) (st' := fun x2 => [.int (yw x2)]) (k0 := v0) (me := xm155) hP_155 rfl (Or.inl rfl) ⟨rfl, by decide⟩ rfl rfl (Nat.le_of_ble_eq_true rfl) (by decide) hP_156 (Nat.le_of_ble_eq_true rfl) (fun _ => rfl) (k_f_Calendarhall_answerOf O f (d + 0) v0 v1 v2 M1) (fun x2 M2 => ?_)
    refine xZ.adv (me := xm155) hP_155 1 (pc' := 21) (lv' := [(0, .ref v0), (1, .int (yw v1)), (2, .int (yw v2))]) (st' := [.int (2 : Int32), .int (yw x2)]) rfl ?_
    refine xZ.eqs (lv2 := [(0, .ref v0), (1, .int (yw v1)), (2, .int (yw v2))]) (st2 := [.int (yw 2), .int (yw x2)]) rfl (by simp only [yl_lit, yL_lit, yw_add, yw_sub, yw_mul, yw_neg, yl_add, yl_sub, yl_mul, cj_and, cj_or, cj_xor, cj_shl, cj_shr, cj_ushr, cj_div, cj_i2c, cj_i2b, cj_dc, ck_and, ck_or, ck_xor, ck_shl, ck_shr, ck_ushr, ck_i2l, ck_l2i, ck_cmp]) ?_
    refine xZ.jc_eq (me := xm155) hP_155 rfl (fun h2 => ?_) (fun h2 => ?_)
    · skip
      refine xZ.adv (me := xm155) hP_155 1 (pc' := 29) (lv' := [(0, .ref v0), (1, .int (yw v1)), (2, .int (yw v2))]) (st' := [.int (0 : Int32)]) rfl ?_
      refine xZ.eqs (lv2 := [(0, .ref v0), (1, .int (yw v1)), (2, .int (yw v2))]) (st2 := [.int (yw 0)]) rfl (by simp only [yl_lit, yL_lit, yw_add, yw_sub, yw_mul, yw_neg, yl_add, yl_sub, yl_mul, cj_and, cj_or, cj_xor, cj_shl, cj_shr, cj_ushr, cj_div, cj_i2c, cj_i2b, cj_dc, ck_and, ck_or, ck_xor, ck_shl, ck_shr, ck_ushr, ck_i2l, ck_l2i, ck_cmp]) ?_
      exact xZ.jrete (me := xm155) hP_155 rfl rfl rfl
    · skip
      refine xZ.adv (me := xm155) hP_155 2 (pc' := 29) (lv' := [(0, .ref v0), (1, .int (yw v1)), (2, .int (yw v2))]) (st' := [.int (1 : Int32)]) rfl ?_
      refine xZ.eqs (lv2 := [(0, .ref v0), (1, .int (yw v1)), (2, .int (yw v2))]) (st2 := [.int (yw 1)]) rfl (by simp only [yl_lit, yL_lit, yw_add, yw_sub, yw_mul, yw_neg, yl_add, yl_sub, yl_mul, cj_and, cj_or, cj_xor, cj_shl, cj_shr, cj_ushr, cj_div, cj_i2c, cj_i2b, cj_dc, ck_and, ck_or, ck_xor, ck_shl, ck_shr, ck_ushr, ck_i2l, ck_l2i, ck_cmp]) ?_
      exact xZ.jrete (me := xm155) hP_155 rfl rfl rfl
  · skip
    refine xZ.adv (me := xm155) hP_155 1 (pc' := 29) (lv' := [(0, .ref v0), (1, .int (yw v1)), (2, .int (yw v2))]) (st' := [.int (0 : Int32)]) rfl ?_
    refine xZ.eqs (lv2 := [(0, .ref v0), (1, .int (yw v1)), (2, .int (yw v2))]) (st2 := [.int (yw 0)]) rfl (by simp only [yl_lit, yL_lit, yw_add, yw_sub, yw_mul, yw_neg, yl_add, yl_sub, yl_mul, cj_and, cj_or, cj_xor, cj_shl, cj_shr, cj_ushr, cj_div, cj_i2c, cj_i2b, cj_dc, ck_and, ck_or, ck_xor, ck_shl, ck_shr, ck_ushr, ck_i2l, ck_l2i, ck_cmp]) ?_
    exact xZ.jrete (me := xm155) hP_155 rfl rfl rfl
