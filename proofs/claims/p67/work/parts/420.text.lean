/-! ===== texts ===== -/
def f_Hall_freeReminder_2 (O : Nat → Option va_E) (f : Nat) : Nat → Nat → Int → xM → Option (Int × xM)
  | 0, _, _, _ => none
  | n + 1, v0, v1, M =>
    (gR O M v0 4 6).bind fun x1 =>
    (aJN O M x1).bind fun x2 =>
    if yw x2 ≤ yw v1 then (
      some ((-1), M)
    ) else
    (gR O M v0 4 6).bind fun x3 =>
    (aJ O M x3 v1).bind fun x4 =>
    if yw x4 = yw (-1) then (
      some (v1, M)
    ) else
    f_Hall_freeReminder_2 O f n v0 (v1 + 1) M
set_option maxRecDepth 20000 in
theorem k_f_Hall_freeReminder_2 (O : Nat → Option va_E) (f d : Nat) : ∀ (n : Nat) (v0 : Nat) (v1 : Int) (M : xM), xZ oJ O (d + 0) 222 2 [(0, .ref v0), (1, .int (yw v1))] [] M (f_Hall_freeReminder_2 O f n v0 v1 M) := by
  intro n
  induction n with
  | zero =>
    intro v0 v1 M
    exact xZ.no
  | succ n ih =>
    intro v0 v1 M
    unfold f_Hall_freeReminder_2
    refine xZ.adv (me := xm222) hP_222 2 (pc' := 4) (lv' := [(0, .ref v0), (1, .int (yw v1))]) (st' := [.ref v0, .int (yw v1)]) rfl ?_
    refine xZ.k_gR (me := xm222) hP_222 rfl (fun x1 => ?_)
    refine xZ.k_aJN (me := xm222) hP_222 rfl (fun x2 => ?_)
    refine xZ.jc_ge (me := xm222) hP_222 rfl (fun h1 => ?_) (fun h1 => ?_)
    · skip
      refine xZ.adv (me := xm222) hP_222 1 (pc' := 30) (lv' := [(0, .ref v0), (1, .int (yw v1))]) (st' := [.int (-1 : Int32)]) rfl ?_
      refine xZ.eqs (lv2 := [(0, .ref v0), (1, .int (yw v1))]) (st2 := [.int (yw (-1))]) rfl (by simp only [yl_lit, yL_lit, yw_add, yw_sub, yw_mul, yw_neg, yl_add, yl_sub, yl_mul, cj_and, cj_or, cj_xor, cj_shl, cj_shr, cj_ushr, cj_div, cj_i2c, cj_i2b, cj_dc, ck_and, ck_or, ck_xor, ck_shl, ck_shr, ck_ushr, ck_i2l, ck_l2i, ck_cmp]) ?_
      exact xZ.jreti (me := xm222) hP_222 rfl rfl
    · skip
      refine xZ.adv (me := xm222) hP_222 1 (pc' := 12) (lv' := [(0, .ref v0), (1, .int (yw v1))]) (st' := [.ref v0]) rfl ?_
      refine xZ.k_gR (me := xm222) hP_222 rfl (fun x3 => ?_)
      refine xZ.adv (me := xm222) hP_222 1 (pc' := 16) (lv' := [(0, .ref v0), (1, .int (yw v1))]) (st' := [.int (yw v1), .ref x3]) rfl ?_
      refine xZ.k_aJ (me := xm222) hP_222 rfl (fun x4 => ?_)
      refine xZ.adv (me := xm222) hP_222 1 (pc' := 18) (lv' := [(0, .ref v0), (1, .int (yw v1))]) (st' := [.int (-1 : Int32), .int (yw x4)]) rfl ?_
      refine xZ.eqs (lv2 := [(0, .ref v0), (1, .int (yw v1))]) (st2 := [.int (yw (-1)), .int (yw x4)]) rfl (by simp only [yl_lit, yL_lit, yw_add, yw_sub, yw_mul, yw_neg, yl_add, yl_sub, yl_mul, cj_and, cj_or, cj_xor, cj_shl, cj_shr, cj_ushr, cj_div, cj_i2c, cj_i2b, cj_dc, ck_and, ck_or, ck_xor, ck_shl, ck_shr, ck_ushr, ck_i2l, ck_l2i, ck_cmp]) ?_
      refine xZ.jc_ne (me := xm222) hP_222 rfl (fun h2 => ?_) (fun h2 => ?_)
      · skip
        refine xZ.adv (me := xm222) hP_222 1 (pc' := 22) (lv' := [(0, .ref v0), (1, .int (yw v1))]) (st' := [.int (yw v1)]) rfl ?_
        exact xZ.jreti (me := xm222) hP_222 rfl rfl
      · skip
        refine xZ.adv (me := xm222) hP_222 2 (pc' := 2) (lv' := [(1, .int ((yw v1) + (1 : Int32))), (0, .ref v0)]) (st' := []) rfl ?_
        refine xZ.eqs (lv2 := [(1, .int (yw (v1 + 1))), (0, .ref v0)]) (st2 := []) (by simp only [yl_lit, yL_lit, yw_add, yw_sub, yw_mul, yw_neg, yl_add, yl_sub, yl_mul, cj_and, cj_or, cj_xor, cj_shl, cj_shr, cj_ushr, cj_div, cj_i2c, cj_i2b, cj_dc, ck_and, ck_or, ck_xor, ck_shl, ck_shr, ck_ushr, ck_i2l, ck_l2i, ck_cmp]) rfl ?_
        exact xZ.sub (xsc (.tail _ (.head _)) (xsc (.head _) xsn)) (show ([1, 0] : List Nat).Nodup from by decide) (ih v0 (v1 + 1) M)
def f_Hall_freeReminder (O : Nat → Option va_E) (f : Nat) (v0 : Nat) (M : xM) : Option (Int × xM) :=
  f_Hall_freeReminder_2 O f f v0 0 M
set_option maxRecDepth 20000 in
theorem k_f_Hall_freeReminder (O : Nat → Option va_E) (f d : Nat) (v0 : Nat) (M : xM) : xZ oJ O (d + 0) 222 0 [(0, .ref v0)] [] M (f_Hall_freeReminder O f v0 M) := by
  unfold f_Hall_freeReminder
  refine xZ.adv (me := xm222) hP_222 2 (pc' := 2) (lv' := [(1, .int (0 : Int32)), (0, .ref v0)]) (st' := []) rfl ?_
  refine xZ.eqs (lv2 := [(1, .int (yw 0)), (0, .ref v0)]) (st2 := []) (by simp only [yl_lit, yL_lit, yw_add, yw_sub, yw_mul, yw_neg, yl_add, yl_sub, yl_mul, cj_and, cj_or, cj_xor, cj_shl, cj_shr, cj_ushr, cj_div, cj_i2c, cj_i2b, cj_dc, ck_and, ck_or, ck_xor, ck_shl, ck_shr, ck_ushr, ck_i2l, ck_l2i, ck_cmp]) rfl ?_
  exact xZ.sub (xsc (.tail _ (.head _)) (xsc (.head _) xsn)) (show ([1, 0] : List Nat).Nodup from by decide) (k_f_Hall_freeReminder_2 O f d f v0 0 M)
def f_Hall_putReminder (O : Nat → Option va_E) (f : Nat) (v0 : Nat) (v1 : Int) (v2 : Int) (v3 : Int) (M : xM) : Option (Unit × xM) :=
  if yw v1 < yw 0 then (
    some ((), M)
  ) else
  (gR O M v0 4 6).bind fun x1 =>
  (aJN O M x1).bind fun x2 =>
  if yw x2 ≤ yw v1 then (
    some ((), M)
  ) else
  (gR O M v0 4 7).bind fun x3 =>
  (aJN O M x3).bind fun x4 =>
  if yw v1 < yw x4 then (
    (gR O M v0 4 6).bind fun x5 =>
    (wJ M x5 v1 v2).bind fun M1 =>
    (gR O M1 v0 4 7).bind fun x6 =>
    (wJ M1 x6 v1 v3).bind fun M2 =>
    some ((), M2)
  ) else
  some ((), M)
set_option maxRecDepth 20000 in
theorem k_f_Hall_putReminder (O : Nat → Option va_E) (f d : Nat) (v0 : Nat) (v1 : Int) (v2 : Int) (v3 : Int) (M : xM) : xZ oU O (d + 0) 223 0 [(0, .ref v0), (1, .int (yw v1)), (2, .int (yw v2)), (3, .int (yw v3))] [] M (f_Hall_putReminder O f v0 v1 v2 v3 M) := by
  unfold f_Hall_putReminder
  refine xZ.adv (me := xm223) hP_223 1 (pc' := 1) (lv' := [(0, .ref v0), (1, .int (yw v1)), (2, .int (yw v2)), (3, .int (yw v3))]) (st' := [.int (yw v1)]) rfl ?_
  refine xZ.jf_lt (me := xm223) hP_223 rfl (fun h1 => ?_) (fun h1 => ?_)
  · skip
    exact xZ.retu (me := xm223) hP_223 rfl rfl
  · skip
    refine xZ.adv (me := xm223) hP_223 2 (pc' := 6) (lv' := [(0, .ref v0), (1, .int (yw v1)), (2, .int (yw v2)), (3, .int (yw v3))]) (st' := [.ref v0, .int (yw v1)]) rfl ?_
    refine xZ.k_gR (me := xm223) hP_223 rfl (fun x1 => ?_)
    refine xZ.k_aJN (me := xm223) hP_223 rfl (fun x2 => ?_)
    refine xZ.jc_ge (me := xm223) hP_223 rfl (fun h2 => ?_) (fun h2 => ?_)
    · skip
      exact xZ.retu (me := xm223) hP_223 rfl rfl
    · skip
      refine xZ.adv (me := xm223) hP_223 2 (pc' := 15) (lv' := [(0, .ref v0), (1, .int (yw v1)), (2, .int (yw v2)), (3, .int (yw v3))]) (st' := [.ref v0, .int (yw v1)]) rfl ?_
      refine xZ.k_gR (me := xm223) hP_223 rfl (fun x3 => ?_)
      refine xZ.k_aJN (me := xm223) hP_223 rfl (fun x4 => ?_)
      refine xZ.jc_lt (me := xm223) hP_223 rfl (fun h3 => ?_) (fun h3 => ?_)
      · skip
        refine xZ.adv (me := xm223) hP_223 1 (pc' := 24) (lv' := [(0, .ref v0), (1, .int (yw v1)), (2, .int (yw v2)), (3, .int (yw v3))]) (st' := [.ref v0]) rfl ?_
        refine xZ.k_gR (me := xm223) hP_223 rfl (fun x5 => ?_)
        refine xZ.adv (me := xm223) hP_223 2 (pc' := 29) (lv' := [(0, .ref v0), (1, .int (yw v1)), (2, .int (yw v2)), (3, .int (yw v3))]) (st' := [.int (yw v2), .int (yw v1), .ref x5]) rfl ?_
        refine xZ.k_wJ (me := xm223) hP_223 rfl (fun M1 => ?_)
        refine xZ.adv (me := xm223) hP_223 1 (pc' := 31) (lv' := [(0, .ref v0), (1, .int (yw v1)), (2, .int (yw v2)), (3, .int (yw v3))]) (st' := [.ref v0]) rfl ?_
        refine xZ.k_gR (me := xm223) hP_223 rfl (fun x6 => ?_)
        refine xZ.adv (me := xm223) hP_223 2 (pc' := 36) (lv' := [(0, .ref v0), (1, .int (yw v1)), (2, .int (yw v2)), (3, .int (yw v3))]) (st' := [.int (yw v3), .int (yw v1), .ref x6]) rfl ?_
        refine xZ.k_wJ (me := xm223) hP_223 rfl (fun M2 => ?_)
        exact xZ.retu (me := xm223) hP_223 rfl rfl
      · skip
        exact xZ.retu (me := xm223) hP_223 rfl rfl
def f_Calendarhall_remind (O : Nat → Option va_E) (f : Nat) (v0 : Nat) (v1 : Int) (v2 : Int) (M : xM) : Option (Int × xM) :=
  (isO O M v0 12).bind fun _ =>
  xcl (f_Calendarhall_seriesNumbered O f v0 v1 M) fun x1 M1 =>
  xcl (f_Calendarhall_needRange O f v2 0 1440 M1) fun _ M2 =>
  (gR O M2 v0 12 0).bind fun x3 =>
  (isO O M2 x3 4).bind fun _ =>
  xcl (f_Hall_freeReminder O f x3 M2) fun x4 M3 =>
  if yw x4 = yw (-1) then (
    none
  ) else
  (isO O M3 v0 12).bind fun _ =>
  xcl (f_Calendarhall_saveForUndo O f v0 M3) fun _ M4 =>
  (gR O M4 v0 12 0).bind fun x6 =>
  (isO O M4 x6 4).bind fun _ =>
  xcl (f_Hall_putReminder O f x6 x4 v1 v2 M4) fun _ M5 =>
  some (x4, M5)
set_option maxRecDepth 20000 in
theorem k_f_Calendarhall_remind (O : Nat → Option va_E) (f d : Nat) (v0 : Nat) (v1 : Int) (v2 : Int) (M : xM) : xZ oJ O (d + 5) 221 0 [(0, .ref v0), (1, .int (yw v1)), (2, .int (yw v2))] [] M (f_Calendarhall_remind O f v0 v1 v2 M) := by
  unfold f_Calendarhall_remind
  refine xZ.adv (me := xm221) hP_221 2 (pc' := 2) (lv' := [(0, .ref v0), (1, .int (yw v1)), (2, .int (yw v2))]) (st' := [.int (yw v1), .ref v0]) rfl ?_
  refine xZ.callv (κ := oR) (av := [.int (yw v1)]) (rest := []) (st' := fun x1 => [.ref x1]) (k0 := v0) (me := xm221) hP_221 rfl (Or.inl rfl) ⟨rfl, by decide⟩ rfl rfl (Nat.le_of_ble_eq_true rfl) (by decide) hP_79 (Nat.le_of_ble_eq_true rfl) (fun _ => rfl) (k_f_Calendarhall_seriesNumbered O f (d + 3) v0 v1 M) (fun x1 M1 => ?_)
  refine xZ.adv (me := xm221) hP_221 4 (pc' := 11) (lv' := [(0, .ref v0), (1, .int (yw v1)), (2, .int (yw v2))]) (st' := [.int (1440 : Int32), .int (0 : Int32), .int (yw v2)]) rfl ?_
  refine xZ.eqs (lv2 := [(0, .ref v0), (1, .int (yw v1)), (2, .int (yw v2))]) (st2 := [.int (yw 1440), .int (yw 0), .int (yw v2)]) rfl (by simp only [yl_lit, yL_lit, yw_add, yw_sub, yw_mul, yw_neg, yl_add, yl_sub, yl_mul, cj_and, cj_or, cj_xor, cj_shl, cj_shr, cj_ushr, cj_div, cj_i2c, cj_i2b, cj_dc, ck_and, ck_or, ck_xor, ck_shl, ck_shr, ck_ushr, ck_i2l, ck_l2i, ck_cmp]) ?_
  refine xZ.calls (κ := oU) (av := [.int (yw v2), .int (yw 0), .int (yw 1440)]) (rest := []) (st' := fun _ => []) (me := xm221) hP_221 rfl rfl rfl (Nat.le_of_ble_eq_true rfl) (by decide) hP_22 (Nat.le_of_ble_eq_true rfl) (fun _ => rfl) (k_f_Calendarhall_needRange O f (d + 4) v2 0 1440 M1) (fun _ M2 => ?_)
  refine xZ.adv (me := xm221) hP_221 1 (pc' := 15) (lv' := [(0, .ref v0), (1, .int (yw v1)), (2, .int (yw v2))]) (st' := [.ref v0]) rfl ?_
  refine xZ.k_gR (me := xm221) hP_221 rfl (fun x3 => ?_)
  refine xZ.callv (κ := oJ) (av := []) (rest := []) (st' := fun x4 => [.int (yw x4)]) (k0 := x3) (me := xm221) hP_221 rfl (Or.inl rfl) ⟨rfl, by decide⟩ rfl rfl (Nat.le_of_ble_eq_true rfl) (by decide) hP_222 (Nat.le_of_ble_eq_true rfl) (fun _ => rfl) (k_f_Hall_freeReminder O f (d + 4) x3 M2) (fun x4 M3 => ?_)
  refine xZ.adv (me := xm221) hP_221 3 (pc' := 24) (lv' := [(3, .int (yw x4)), (0, .ref v0), (1, .int (yw v1)), (2, .int (yw v2))]) (st' := [.int (-1 : Int32), .int (yw x4)]) rfl ?_
  refine xZ.eqs (lv2 := [(3, .int (yw x4)), (0, .ref v0), (1, .int (yw v1)), (2, .int (yw v2))]) (st2 := [.int (yw (-1)), .int (yw x4)]) rfl (by simp only [yl_lit, yL_lit, yw_add, yw_sub, yw_mul, yw_neg, yl_add, yl_sub, yl_mul, cj_and, cj_or, cj_xor, cj_shl, cj_shr, cj_ushr, cj_div, cj_i2c, cj_i2b, cj_dc, ck_and, ck_or, ck_xor, ck_shl, ck_shr, ck_ushr, ck_i2l, ck_l2i, ck_cmp]) ?_
  refine xZ.jc_ne (me := xm221) hP_221 rfl (fun h1 => ?_) (fun h1 => ?_)
  · skip
    exact xZ.no
  · skip
    refine xZ.adv (me := xm221) hP_221 1 (pc' := 36) (lv' := [(3, .int (yw x4)), (0, .ref v0), (1, .int (yw v1)), (2, .int (yw v2))]) (st' := [.ref v0]) rfl ?_
    refine xZ.callv (κ := oU) (av := []) (rest := []) (st' := fun _ => []) (k0 := v0) (me := xm221) hP_221 rfl (Or.inl rfl) ⟨rfl, by decide⟩ rfl rfl (Nat.le_of_ble_eq_true rfl) (by decide) hP_23 (Nat.le_of_ble_eq_true rfl) (fun _ => rfl) (k_f_Calendarhall_saveForUndo O f (d + 0) v0 M3) (fun _ M4 => ?_)
    refine xZ.adv (me := xm221) hP_221 1 (pc' := 40) (lv' := [(3, .int (yw x4)), (0, .ref v0), (1, .int (yw v1)), (2, .int (yw v2))]) (st' := [.ref v0]) rfl ?_
    refine xZ.k_gR (me := xm221) hP_221 rfl (fun x6 => ?_)
    refine xZ.adv (me := xm221) hP_221 3 (pc' := 46) (lv' := [(3, .int (yw x4)), (0, .ref v0), (1, .int (yw v1)), (2, .int (yw v2))]) (st' := [.int (yw v2), .int (yw v1), .int (yw x4), .ref x6]) rfl ?_
    refine xZ.callv (κ := oU) (av := [.int (yw x4), .int (yw v1), .int (yw v2)]) (rest := []) (st' := fun _ => []) (k0 := x6) (me := xm221) hP_221 rfl (Or.inl rfl) ⟨rfl, by decide⟩ rfl rfl (Nat.le_of_ble_eq_true rfl) (by decide) hP_223 (Nat.le_of_ble_eq_true rfl) (fun _ => rfl) (k_f_Hall_putReminder O f (d + 4) x6 x4 v1 v2 M4) (fun _ M5 => ?_)
    refine xZ.adv (me := xm221) hP_221 1 (pc' := 50) (lv' := [(3, .int (yw x4)), (0, .ref v0), (1, .int (yw v1)), (2, .int (yw v2))]) (st' := [.int (yw x4)]) rfl ?_
    exact xZ.jreti (me := xm221) hP_221 rfl rfl
def f_Calendarhall_now (O : Nat → Option va_E) (f : Nat) (v0 : Nat) (M : xM) : Option (Int × xM) :=
  (gR O M v0 12 0).bind fun x1 =>
  (gJ O M x1 4 5).bind fun x2 =>
  some (x2, M)
set_option maxRecDepth 20000 in
theorem k_f_Calendarhall_now (O : Nat → Option va_E) (f d : Nat) (v0 : Nat) (M : xM) : xZ oJ O (d + 0) 224 0 [(0, .ref v0)] [] M (f_Calendarhall_now O f v0 M) := by
  unfold f_Calendarhall_now
  refine xZ.adv (me := xm224) hP_224 1 (pc' := 1) (lv' := [(0, .ref v0)]) (st' := [.ref v0]) rfl ?_
  refine xZ.k_gR (me := xm224) hP_224 rfl (fun x1 => ?_)
  refine xZ.k_gJ (me := xm224) hP_224 rfl (fun x2 => ?_)
  exact xZ.jreti (me := xm224) hP_224 rfl rfl
def f_Hall_isReminder (O : Nat → Option va_E) (f : Nat) (v0 : Nat) (v1 : Int) (M : xM) : Option (Int × xM) :=
  if yw v1 < yw 0 then (
    some (0, M)
  ) else
  (gR O M v0 4 6).bind fun x1 =>
  (aJN O M x1).bind fun x2 =>
  if yw x2 ≤ yw v1 then (
    some (0, M)
  ) else
  (gR O M v0 4 6).bind fun x3 =>
  (aJ O M x3 v1).bind fun x4 =>
  if yw x4 = yw (-1) then (
    some (0, M)
  ) else
  some (1, M)
set_option maxRecDepth 20000 in
theorem k_f_Hall_isReminder (O : Nat → Option va_E) (f d : Nat) (v0 : Nat) (v1 : Int) (M : xM) : xZ oJ O (d + 0) 226 0 [(0, .ref v0), (1, .int (yw v1))] [] M (f_Hall_isReminder O f v0 v1 M) := by
  unfold f_Hall_isReminder
  refine xZ.adv (me := xm226) hP_226 1 (pc' := 1) (lv' := [(0, .ref v0), (1, .int (yw v1))]) (st' := [.int (yw v1)]) rfl ?_
  refine xZ.jf_lt (me := xm226) hP_226 rfl (fun h1 => ?_) (fun h1 => ?_)
  · skip
    refine xZ.adv (me := xm226) hP_226 1 (pc' := 28) (lv' := [(0, .ref v0), (1, .int (yw v1))]) (st' := [.int (0 : Int32)]) rfl ?_
    refine xZ.eqs (lv2 := [(0, .ref v0), (1, .int (yw v1))]) (st2 := [.int (yw 0)]) rfl (by simp only [yl_lit, yL_lit, yw_add, yw_sub, yw_mul, yw_neg, yl_add, yl_sub, yl_mul, cj_and, cj_or, cj_xor, cj_shl, cj_shr, cj_ushr, cj_div, cj_i2c, cj_i2b, cj_dc, ck_and, ck_or, ck_xor, ck_shl, ck_shr, ck_ushr, ck_i2l, ck_l2i, ck_cmp]) ?_
    exact xZ.jrete (me := xm226) hP_226 rfl rfl rfl
  · skip
    refine xZ.adv (me := xm226) hP_226 2 (pc' := 6) (lv' := [(0, .ref v0), (1, .int (yw v1))]) (st' := [.ref v0, .int (yw v1)]) rfl ?_
    refine xZ.k_gR (me := xm226) hP_226 rfl (fun x1 => ?_)
    refine xZ.k_aJN (me := xm226) hP_226 rfl (fun x2 => ?_)
    refine xZ.jc_ge (me := xm226) hP_226 rfl (fun h2 => ?_) (fun h2 => ?_)
    · skip
      refine xZ.adv (me := xm226) hP_226 1 (pc' := 28) (lv' := [(0, .ref v0), (1, .int (yw v1))]) (st' := [.int (0 : Int32)]) rfl ?_
      refine xZ.eqs (lv2 := [(0, .ref v0), (1, .int (yw v1))]) (st2 := [.int (yw 0)]) rfl (by simp only [yl_lit, yL_lit, yw_add, yw_sub, yw_mul, yw_neg, yl_add, yl_sub, yl_mul, cj_and, cj_or, cj_xor, cj_shl, cj_shr, cj_ushr, cj_div, cj_i2c, cj_i2b, cj_dc, ck_and, ck_or, ck_xor, ck_shl, ck_shr, ck_ushr, ck_i2l, ck_l2i, ck_cmp]) ?_
      exact xZ.jrete (me := xm226) hP_226 rfl rfl rfl
    · skip
      refine xZ.adv (me := xm226) hP_226 1 (pc' := 14) (lv' := [(0, .ref v0), (1, .int (yw v1))]) (st' := [.ref v0]) rfl ?_
      refine xZ.k_gR (me := xm226) hP_226 rfl (fun x3 => ?_)
      refine xZ.adv (me := xm226) hP_226 1 (pc' := 18) (lv' := [(0, .ref v0), (1, .int (yw v1))]) (st' := [.int (yw v1), .ref x3]) rfl ?_
      refine xZ.k_aJ (me := xm226) hP_226 rfl (fun x4 => ?_)
      refine xZ.adv (me := xm226) hP_226 1 (pc' := 20) (lv' := [(0, .ref v0), (1, .int (yw v1))]) (st' := [.int (-1 : Int32), .int (yw x4)]) rfl ?_
      refine xZ.eqs (lv2 := [(0, .ref v0), (1, .int (yw v1))]) (st2 := [.int (yw (-1)), .int (yw x4)]) rfl (by simp only [yl_lit, yL_lit, yw_add, yw_sub, yw_mul, yw_neg, yl_add, yl_sub, yl_mul, cj_and, cj_or, cj_xor, cj_shl, cj_shr, cj_ushr, cj_div, cj_i2c, cj_i2b, cj_dc, ck_and, ck_or, ck_xor, ck_shl, ck_shr, ck_ushr, ck_i2l, ck_l2i, ck_cmp]) ?_
      refine xZ.jc_eq (me := xm226) hP_226 rfl (fun h3 => ?_) (fun h3 => ?_)
      · skip
        refine xZ.adv (me := xm226) hP_226 1 (pc' := 28) (lv' := [(0, .ref v0), (1, .int (yw v1))]) (st' := [.int (0 : Int32)]) rfl ?_
        refine xZ.eqs (lv2 := [(0, .ref v0), (1, .int (yw v1))]) (st2 := [.int (yw 0)]) rfl (by simp only [yl_lit, yL_lit, yw_add, yw_sub, yw_mul, yw_neg, yl_add, yl_sub, yl_mul, cj_and, cj_or, cj_xor, cj_shl, cj_shr, cj_ushr, cj_div, cj_i2c, cj_i2b, cj_dc, ck_and, ck_or, ck_xor, ck_shl, ck_shr, ck_ushr, ck_i2l, ck_l2i, ck_cmp]) ?_
        exact xZ.jrete (me := xm226) hP_226 rfl rfl rfl
      · skip
        refine xZ.adv (me := xm226) hP_226 2 (pc' := 28) (lv' := [(0, .ref v0), (1, .int (yw v1))]) (st' := [.int (1 : Int32)]) rfl ?_
        refine xZ.eqs (lv2 := [(0, .ref v0), (1, .int (yw v1))]) (st2 := [.int (yw 1)]) rfl (by simp only [yl_lit, yL_lit, yw_add, yw_sub, yw_mul, yw_neg, yl_add, yl_sub, yl_mul, cj_and, cj_or, cj_xor, cj_shl, cj_shr, cj_ushr, cj_div, cj_i2c, cj_i2b, cj_dc, ck_and, ck_or, ck_xor, ck_shl, ck_shr, ck_ushr, ck_i2l, ck_l2i, ck_cmp]) ?_
        exact xZ.jrete (me := xm226) hP_226 rfl rfl rfl
def f_Hall_ringBehindClock (O : Nat → Option va_E) (f : Nat) (v0 : Nat) (v1 : Int) (M : xM) : Option (Int × xM) :=
  (isO O M v0 4).bind fun _ =>
  xcl (f_Hall_isReminder O f v0 v1 M) fun x1 M1 =>
  if yw x1 = yw 0 then (
    some ((-1), M1)
  ) else
  (gR O M1 v0 4 7).bind fun x2 =>
  (aJN O M1 x2).bind fun x3 =>
  if yw v1 < yw x3 then (
    (gR O M1 v0 4 6).bind fun x4 =>
    (aJ O M1 x4 v1).bind fun x5 =>
    (isO O M1 v0 4).bind fun _ =>
    xcl (f_Hall_anySeries O f v0 x5 M1) fun x6 M2 =>
    (gJ O M2 x6 10 0).bind fun x7 =>
    if yw x7 = yw 0 then (
      some ((-1), M2)
    ) else
    (gR O M2 v0 4 7).bind fun x8 =>
    (aJ O M2 x8 v1).bind fun x9 =>
    (isO O M2 v0 4).bind fun _ =>
    xcl (f_Hall_zoneOf O f v0 x6 M2) fun x10 M3 =>
    (gJ O M3 v0 4 5).bind fun x11 =>
    (isO O M3 x6 10).bind fun _ =>
    xcl (f_Series_firstRow O f x6 x10 ((x11 + 1) + x9) M3) fun x12 M4 =>
    if yw (kcmp x12 (-1)) = yw 0 then (
      some ((-1), M4)
    ) else
    xcl (f_Dates_minuteOf O f x12 M4) fun x13 M5 =>
    some ((x13 - x9), M5)
  ) else
  some ((-1), M1)
set_option maxRecDepth 20000 in
theorem k_f_Hall_ringBehindClock (O : Nat → Option va_E) (f d : Nat) (v0 : Nat) (v1 : Int) (M : xM) : xZ oJ O (d + 6) 227 0 [(0, .ref v0), (1, .int (yw v1))] [] M (f_Hall_ringBehindClock O f v0 v1 M) := by
  unfold f_Hall_ringBehindClock
  refine xZ.adv (me := xm227) hP_227 2 (pc' := 2) (lv' := [(0, .ref v0), (1, .int (yw v1))]) (st' := [.int (yw v1), .ref v0]) rfl ?_
  refine xZ.callv (κ := oJ) (av := [.int (yw v1)]) (rest := []) (st' := fun x1 => [.int (yw x1)]) (k0 := v0) (me := xm227) hP_227 rfl (Or.inl rfl) ⟨rfl, by decide⟩ rfl rfl (Nat.le_of_ble_eq_true rfl) (by decide) hP_226 (Nat.le_of_ble_eq_true rfl) (fun _ => rfl) (k_f_Hall_isReminder O f (d + 5) v0 v1 M) (fun x1 M1 => ?_)
  refine xZ.jf_eq (me := xm227) hP_227 rfl (fun h1 => ?_) (fun h1 => ?_)
  · skip
    refine xZ.adv (me := xm227) hP_227 1 (pc' := 18) (lv' := [(0, .ref v0), (1, .int (yw v1))]) (st' := [.int (-1 : Int32)]) rfl ?_
    refine xZ.eqs (lv2 := [(0, .ref v0), (1, .int (yw v1))]) (st2 := [.int (yw (-1))]) rfl (by simp only [yl_lit, yL_lit, yw_add, yw_sub, yw_mul, yw_neg, yl_add, yl_sub, yl_mul, cj_and, cj_or, cj_xor, cj_shl, cj_shr, cj_ushr, cj_div, cj_i2c, cj_i2b, cj_dc, ck_and, ck_or, ck_xor, ck_shl, ck_shr, ck_ushr, ck_i2l, ck_l2i, ck_cmp]) ?_
    exact xZ.jreti (me := xm227) hP_227 rfl rfl
  · skip
    refine xZ.adv (me := xm227) hP_227 2 (pc' := 10) (lv' := [(0, .ref v0), (1, .int (yw v1))]) (st' := [.ref v0, .int (yw v1)]) rfl ?_
    refine xZ.k_gR (me := xm227) hP_227 rfl (fun x2 => ?_)
    refine xZ.k_aJN (me := xm227) hP_227 rfl (fun x3 => ?_)
    refine xZ.jc_lt (me := xm227) hP_227 rfl (fun h2 => ?_) (fun h2 => ?_)
    · skip
      refine xZ.adv (me := xm227) hP_227 2 (pc' := 21) (lv' := [(0, .ref v0), (1, .int (yw v1))]) (st' := [.ref v0, .ref v0]) rfl ?_
      refine xZ.k_gR (me := xm227) hP_227 rfl (fun x4 => ?_)
      refine xZ.adv (me := xm227) hP_227 1 (pc' := 25) (lv' := [(0, .ref v0), (1, .int (yw v1))]) (st' := [.int (yw v1), .ref x4, .ref v0]) rfl ?_
      refine xZ.k_aJ (me := xm227) hP_227 rfl (fun x5 => ?_)
      refine xZ.callv (κ := oR) (av := [.int (yw x5)]) (rest := []) (st' := fun x6 => [.ref x6]) (k0 := v0) (me := xm227) hP_227 rfl (Or.inl rfl) ⟨rfl, by decide⟩ rfl rfl (Nat.le_of_ble_eq_true rfl) (by decide) hP_29 (Nat.le_of_ble_eq_true rfl) (fun _ => rfl) (k_f_Hall_anySeries O f (d + 5) v0 x5 M1) (fun x6 M2 => ?_)
      refine xZ.adv (me := xm227) hP_227 2 (pc' := 31) (lv' := [(2, .ref x6), (0, .ref v0), (1, .int (yw v1))]) (st' := [.ref x6]) rfl ?_
      refine xZ.k_gJ (me := xm227) hP_227 rfl (fun x7 => ?_)
      refine xZ.jf_ne (me := xm227) hP_227 rfl (fun h3 => ?_) (fun h3 => ?_)
      · skip
        refine xZ.adv (me := xm227) hP_227 1 (pc' := 38) (lv' := [(2, .ref x6), (0, .ref v0), (1, .int (yw v1))]) (st' := [.int (-1 : Int32)]) rfl ?_
        refine xZ.eqs (lv2 := [(2, .ref x6), (0, .ref v0), (1, .int (yw v1))]) (st2 := [.int (yw (-1))]) rfl (by simp only [yl_lit, yL_lit, yw_add, yw_sub, yw_mul, yw_neg, yl_add, yl_sub, yl_mul, cj_and, cj_or, cj_xor, cj_shl, cj_shr, cj_ushr, cj_div, cj_i2c, cj_i2b, cj_dc, ck_and, ck_or, ck_xor, ck_shl, ck_shr, ck_ushr, ck_i2l, ck_l2i, ck_cmp]) ?_
        exact xZ.jreti (me := xm227) hP_227 rfl rfl
      · skip
        refine xZ.adv (me := xm227) hP_227 1 (pc' := 40) (lv' := [(2, .ref x6), (0, .ref v0), (1, .int (yw v1))]) (st' := [.ref v0]) rfl ?_
        refine xZ.k_gR (me := xm227) hP_227 rfl (fun x8 => ?_)
        refine xZ.adv (me := xm227) hP_227 1 (pc' := 44) (lv' := [(2, .ref x6), (0, .ref v0), (1, .int (yw v1))]) (st' := [.int (yw v1), .ref x8]) rfl ?_
        refine xZ.k_aJ (me := xm227) hP_227 rfl (fun x9 => ?_)
        refine xZ.adv (me := xm227) hP_227 4 (pc' := 49) (lv' := [(3, .int (yw x9)), (2, .ref x6), (0, .ref v0), (1, .int (yw v1))]) (st' := [.ref x6, .ref v0, .ref x6]) rfl ?_
        refine xZ.callv (κ := oR) (av := [.ref x6]) (rest := [.ref x6]) (st' := fun x10 => [.ref x10, .ref x6]) (k0 := v0) (me := xm227) hP_227 rfl (Or.inl rfl) ⟨rfl, by decide⟩ rfl rfl (Nat.le_of_ble_eq_true rfl) (by decide) hP_102 (Nat.le_of_ble_eq_true rfl) (fun _ => rfl) (k_f_Hall_zoneOf O f (d + 4) v0 x6 M2) (fun x10 M3 => ?_)
        refine xZ.adv (me := xm227) hP_227 1 (pc' := 53) (lv' := [(3, .int (yw x9)), (2, .ref x6), (0, .ref v0), (1, .int (yw v1))]) (st' := [.ref v0, .ref x10, .ref x6]) rfl ?_
        refine xZ.k_gJ (me := xm227) hP_227 rfl (fun x11 => ?_)
        refine xZ.adv (me := xm227) hP_227 4 (pc' := 60) (lv' := [(3, .int (yw x9)), (2, .ref x6), (0, .ref v0), (1, .int (yw v1))]) (st' := [.int (((yw x11) + (1 : Int32)) + (yw x9)), .ref x10, .ref x6]) rfl ?_
        refine xZ.eqs (lv2 := [(3, .int (yw x9)), (2, .ref x6), (0, .ref v0), (1, .int (yw v1))]) (st2 := [.int (yw ((x11 + 1) + x9)), .ref x10, .ref x6]) rfl (by simp only [yl_lit, yL_lit, yw_add, yw_sub, yw_mul, yw_neg, yl_add, yl_sub, yl_mul, cj_and, cj_or, cj_xor, cj_shl, cj_shr, cj_ushr, cj_div, cj_i2c, cj_i2b, cj_dc, ck_and, ck_or, ck_xor, ck_shl, ck_shr, ck_ushr, ck_i2l, ck_l2i, ck_cmp]) ?_
        refine xZ.callv (κ := oK) (av := [.ref x10, .int (yw ((x11 + 1) + x9))]) (rest := []) (st' := fun x12 => [.long (yl x12)]) (k0 := x6) (me := xm227) hP_227 rfl (Or.inl rfl) ⟨rfl, by decide⟩ rfl rfl (Nat.le_of_ble_eq_true rfl) (by decide) hP_121 (Nat.le_of_ble_eq_true rfl) (fun _ => rfl) (k_f_Series_firstRow O f (d + 0) x6 x10 ((x11 + 1) + x9) M3) (fun x12 M4 => ?_)
        refine xZ.adv (me := xm227) hP_227 4 (pc' := 71) (lv' := [(4, .long (yl x12)), (3, .int (yw x9)), (2, .ref x6), (0, .ref v0), (1, .int (yw v1))]) (st' := [.int (lg_cmp (yl x12) (-1 : Int64))]) rfl ?_
        refine xZ.eqs (lv2 := [(4, .long (yl x12)), (3, .int (yw x9)), (2, .ref x6), (0, .ref v0), (1, .int (yw v1))]) (st2 := [.int (yw (kcmp x12 (-1)))]) rfl (by simp only [yl_lit, yL_lit, yw_add, yw_sub, yw_mul, yw_neg, yl_add, yl_neg, yl_sub, yl_mul, cj_and, cj_or, cj_xor, cj_shl, cj_shr, cj_ushr, cj_div, cj_i2c, cj_i2b, cj_dc, ck_and, ck_or, ck_xor, ck_shl, ck_shr, ck_ushr, ck_i2l, ck_l2i, ck_cmp]) ?_
        refine xZ.jf_ne (me := xm227) hP_227 rfl (fun h4 => ?_) (fun h4 => ?_)
        · skip
          refine xZ.adv (me := xm227) hP_227 2 (pc' := 85) (lv' := [(4, .long (yl x12)), (3, .int (yw x9)), (2, .ref x6), (0, .ref v0), (1, .int (yw v1))]) (st' := [.int (-1 : Int32)]) rfl ?_
          refine xZ.eqs (lv2 := [(4, .long (yl x12)), (3, .int (yw x9)), (2, .ref x6), (0, .ref v0), (1, .int (yw v1))]) (st2 := [.int (yw (-1))]) rfl (by simp only [yl_lit, yL_lit, yw_add, yw_sub, yw_mul, yw_neg, yl_add, yl_sub, yl_mul, cj_and, cj_or, cj_xor, cj_shl, cj_shr, cj_ushr, cj_div, cj_i2c, cj_i2b, cj_dc, ck_and, ck_or, ck_xor, ck_shl, ck_shr, ck_ushr, ck_i2l, ck_l2i, ck_cmp]) ?_
          exact xZ.jreti (me := xm227) hP_227 rfl rfl
        · skip
          refine xZ.adv (me := xm227) hP_227 1 (pc' := 80) (lv' := [(4, .long (yl x12)), (3, .int (yw x9)), (2, .ref x6), (0, .ref v0), (1, .int (yw v1))]) (st' := [.long (yl x12)]) rfl ?_
          refine xZ.calls (κ := oJ) (av := [.long (yl x12)]) (rest := []) (st' := fun x13 => [.int (yw x13)]) (me := xm227) hP_227 rfl rfl rfl (Nat.le_of_ble_eq_true rfl) (by decide) hP_172 (Nat.le_of_ble_eq_true rfl) (fun _ => rfl) (k_f_Dates_minuteOf O f (d + 5) x12 M4) (fun x13 M5 => ?_)
          refine xZ.adv (me := xm227) hP_227 2 (pc' := 85) (lv' := [(4, .long (yl x12)), (3, .int (yw x9)), (2, .ref x6), (0, .ref v0), (1, .int (yw v1))]) (st' := [.int ((yw x13) - (yw x9))]) rfl ?_
          refine xZ.eqs (lv2 := [(4, .long (yl x12)), (3, .int (yw x9)), (2, .ref x6), (0, .ref v0), (1, .int (yw v1))]) (st2 := [.int (yw (x13 - x9))]) rfl (by simp only [yl_lit, yL_lit, yw_add, yw_sub, yw_mul, yw_neg, yl_add, yl_sub, yl_mul, cj_and, cj_or, cj_xor, cj_shl, cj_shr, cj_ushr, cj_div, cj_i2c, cj_i2b, cj_dc, ck_and, ck_or, ck_xor, ck_shl, ck_shr, ck_ushr, ck_i2l, ck_l2i, ck_cmp]) ?_
          exact xZ.jreti (me := xm227) hP_227 rfl rfl
    · skip
      refine xZ.adv (me := xm227) hP_227 1 (pc' := 18) (lv' := [(0, .ref v0), (1, .int (yw v1))]) (st' := [.int (-1 : Int32)]) rfl ?_
      refine xZ.eqs (lv2 := [(0, .ref v0), (1, .int (yw v1))]) (st2 := [.int (yw (-1))]) rfl (by simp only [yl_lit, yL_lit, yw_add, yw_sub, yw_mul, yw_neg, yl_add, yl_sub, yl_mul, cj_and, cj_or, cj_xor, cj_shl, cj_shr, cj_ushr, cj_div, cj_i2c, cj_i2b, cj_dc, ck_and, ck_or, ck_xor, ck_shl, ck_shr, ck_ushr, ck_i2l, ck_l2i, ck_cmp]) ?_
      exact xZ.jreti (me := xm227) hP_227 rfl rfl
def f_Calendarhall_nextRing (O : Nat → Option va_E) (f : Nat) (v0 : Nat) (v1 : Int) (M : xM) : Option (Int × xM) :=
  (gR O M v0 12 0).bind fun x1 =>
  (isO O M x1 4).bind fun _ =>
  xcl (f_Hall_isReminder O f x1 v1 M) fun x2 M1 =>
  if yw x2 = yw 0 then (
    none
  ) else
  (gR O M1 v0 12 0).bind fun x3 =>
  (isO O M1 x3 4).bind fun _ =>
  xcl (f_Hall_ringBehindClock O f x3 v1 M1) fun x4 M2 =>
  some (x4, M2)
set_option maxRecDepth 20000 in
theorem k_f_Calendarhall_nextRing (O : Nat → Option va_E) (f d : Nat) (v0 : Nat) (v1 : Int) (M : xM) : xZ oJ O (d + 7) 225 0 [(0, .ref v0), (1, .int (yw v1))] [] M (f_Calendarhall_nextRing O f v0 v1 M) := by
  unfold f_Calendarhall_nextRing
  refine xZ.adv (me := xm225) hP_225 1 (pc' := 1) (lv' := [(0, .ref v0), (1, .int (yw v1))]) (st' := [.ref v0]) rfl ?_
  refine xZ.k_gR (me := xm225) hP_225 rfl (fun x1 => ?_)
  refine xZ.adv (me := xm225) hP_225 1 (pc' := 5) (lv' := [(0, .ref v0), (1, .int (yw v1))]) (st' := [.int (yw v1), .ref x1]) rfl ?_
  refine xZ.callv (κ := oJ) (av := [.int (yw v1)]) (rest := []) (st' := fun x2 => [.int (yw x2)]) (k0 := x1) (me := xm225) hP_225 rfl (Or.inl rfl) ⟨rfl, by decide⟩ rfl rfl (Nat.le_of_ble_eq_true rfl) (by decide) hP_226 (Nat.le_of_ble_eq_true rfl) (fun _ => rfl) (k_f_Hall_isReminder O f (d + 6) x1 v1 M) (fun x2 M1 => ?_)
  refine xZ.jf_ne (me := xm225) hP_225 rfl (fun h1 => ?_) (fun h1 => ?_)
  · skip
    exact xZ.no
  · skip
    refine xZ.adv (me := xm225) hP_225 1 (pc' := 20) (lv' := [(0, .ref v0), (1, .int (yw v1))]) (st' := [.ref v0]) rfl ?_
    refine xZ.k_gR (me := xm225) hP_225 rfl (fun x3 => ?_)
    refine xZ.adv (me := xm225) hP_225 1 (pc' := 24) (lv' := [(0, .ref v0), (1, .int (yw v1))]) (st' := [.int (yw v1), .ref x3]) rfl ?_
    refine xZ.callv (κ := oJ) (av := [.int (yw v1)]) (rest := []) (st' := fun x4 => [.int (yw x4)]) (k0 := x3) (me := xm225) hP_225 rfl (Or.inl rfl) ⟨rfl, by decide⟩ rfl rfl (Nat.le_of_ble_eq_true rfl) (by decide) hP_227 (Nat.le_of_ble_eq_true rfl) (fun _ => rfl) (k_f_Hall_ringBehindClock O f (d + 0) x3 v1 M1) (fun x4 M2 => ?_)
    exact xZ.jreti (me := xm225) hP_225 rfl rfl
def f_Calendarhall_rings (O : Nat → Option va_E) (f : Nat) (v0 : Nat) (M : xM) : Option (Int × xM) :=
  (gR O M v0 12 0).bind fun x1 =>
  (gJ O M x1 4 9).bind fun x2 =>
  some (x2, M)
set_option maxRecDepth 20000 in
theorem k_f_Calendarhall_rings (O : Nat → Option va_E) (f d : Nat) (v0 : Nat) (M : xM) : xZ oJ O (d + 0) 228 0 [(0, .ref v0)] [] M (f_Calendarhall_rings O f v0 M) := by
  unfold f_Calendarhall_rings
  refine xZ.adv (me := xm228) hP_228 1 (pc' := 1) (lv' := [(0, .ref v0)]) (st' := [.ref v0]) rfl ?_
  refine xZ.k_gR (me := xm228) hP_228 rfl (fun x1 => ?_)
  refine xZ.k_gJ (me := xm228) hP_228 rfl (fun x2 => ?_)
  exact xZ.jreti (me := xm228) hP_228 rfl rfl
def f_Hall_collectRings_2 (O : Nat → Option va_E) (f : Nat) : Nat → Nat → Nat → Int → Int → xM → Option (Unit × xM)
  | 0, _, _, _, _, _ => none
  | n + 1, v0, v1, v2, v3, M =>
    (gR O M v0 4 6).bind fun x1 =>
    (aJN O M x1).bind fun x2 =>
    if yw x2 ≤ yw v3 then (
      some ((), M)
    ) else
    (gR O M v0 4 7).bind fun x3 =>
    (aJN O M x3).bind fun x4 =>
    if yw x4 ≤ yw v3 then (
      some ((), M)
    ) else
    (gR O M v0 4 6).bind fun x5 =>
    (aJ O M x5 v3).bind fun x6 =>
    if yw x6 = yw (-1) then (
      f_Hall_collectRings_2 O f n v0 v1 v2 (v3 + 1) M
    ) else
    (gR O M v0 4 6).bind fun x7 =>
    (aJ O M x7 v3).bind fun x8 =>
    (isO O M v0 4).bind fun _ =>
    xcl (f_Hall_anySeries O f v0 x8 M) fun x9 M1 =>
    (gJ O M1 x9 10 0).bind fun x10 =>
    if yw x10 = yw 0 then (
      f_Hall_collectRings_2 O f n v0 v1 v2 (v3 + 1) M1
    ) else
    (gR O M1 v0 4 7).bind fun x11 =>
    (aJ O M1 x11 v3).bind fun x12 =>
    (isO O M1 v0 4).bind fun _ =>
    xcl (f_Hall_zoneOf O f v0 x9 M1) fun x13 M2 =>
    (gJ O M2 v0 4 5).bind fun x14 =>
    (isO O M2 x9 10).bind fun _ =>
    xcl (f_Series_addRows O f x9 v1 v3 x12 x13 (x14 + 1) (v2 + 1) M2) fun _ M3 =>
    f_Hall_collectRings_2 O f n v0 v1 v2 (v3 + 1) M3
set_option maxRecDepth 20000 in
theorem k_f_Hall_collectRings_2 (O : Nat → Option va_E) (f d : Nat) : ∀ (n : Nat) (v0 : Nat) (v1 : Nat) (v2 : Int) (v3 : Int) (M : xM), xZ oU O (d + 6) 230 2 [(0, .ref v0), (1, .ref v1), (2, .int (yw v2)), (3, .int (yw v3))] [] M (f_Hall_collectRings_2 O f n v0 v1 v2 v3 M) := by
  intro n
  induction n with
  | zero =>
    intro v0 v1 v2 v3 M
    exact xZ.no
  | succ n ih =>
    intro v0 v1 v2 v3 M
    unfold f_Hall_collectRings_2
    refine xZ.adv (me := xm230) hP_230 2 (pc' := 4) (lv' := [(0, .ref v0), (1, .ref v1), (2, .int (yw v2)), (3, .int (yw v3))]) (st' := [.ref v0, .int (yw v3)]) rfl ?_
    refine xZ.k_gR (me := xm230) hP_230 rfl (fun x1 => ?_)
    refine xZ.k_aJN (me := xm230) hP_230 rfl (fun x2 => ?_)
    refine xZ.jc_ge (me := xm230) hP_230 rfl (fun h1 => ?_) (fun h1 => ?_)
    · skip
      exact xZ.retu (me := xm230) hP_230 rfl rfl
    · skip
      refine xZ.adv (me := xm230) hP_230 2 (pc' := 13) (lv' := [(0, .ref v0), (1, .ref v1), (2, .int (yw v2)), (3, .int (yw v3))]) (st' := [.ref v0, .int (yw v3)]) rfl ?_
      refine xZ.k_gR (me := xm230) hP_230 rfl (fun x3 => ?_)
      refine xZ.k_aJN (me := xm230) hP_230 rfl (fun x4 => ?_)
      refine xZ.jc_ge (me := xm230) hP_230 rfl (fun h2 => ?_) (fun h2 => ?_)
      · skip
        exact xZ.retu (me := xm230) hP_230 rfl rfl
      · skip
        refine xZ.adv (me := xm230) hP_230 1 (pc' := 21) (lv' := [(0, .ref v0), (1, .ref v1), (2, .int (yw v2)), (3, .int (yw v3))]) (st' := [.ref v0]) rfl ?_
        refine xZ.k_gR (me := xm230) hP_230 rfl (fun x5 => ?_)
        refine xZ.adv (me := xm230) hP_230 1 (pc' := 25) (lv' := [(0, .ref v0), (1, .ref v1), (2, .int (yw v2)), (3, .int (yw v3))]) (st' := [.int (yw v3), .ref x5]) rfl ?_
        refine xZ.k_aJ (me := xm230) hP_230 rfl (fun x6 => ?_)
        refine xZ.adv (me := xm230) hP_230 1 (pc' := 27) (lv' := [(0, .ref v0), (1, .ref v1), (2, .int (yw v2)), (3, .int (yw v3))]) (st' := [.int (-1 : Int32), .int (yw x6)]) rfl ?_
        refine xZ.eqs (lv2 := [(0, .ref v0), (1, .ref v1), (2, .int (yw v2)), (3, .int (yw v3))]) (st2 := [.int (yw (-1)), .int (yw x6)]) rfl (by simp only [yl_lit, yL_lit, yw_add, yw_sub, yw_mul, yw_neg, yl_add, yl_sub, yl_mul, cj_and, cj_or, cj_xor, cj_shl, cj_shr, cj_ushr, cj_div, cj_i2c, cj_i2b, cj_dc, ck_and, ck_or, ck_xor, ck_shl, ck_shr, ck_ushr, ck_i2l, ck_l2i, ck_cmp]) ?_
        refine xZ.jc_ne (me := xm230) hP_230 rfl (fun h3 => ?_) (fun h3 => ?_)
        · skip
          refine xZ.adv (me := xm230) hP_230 3 (pc' := 2) (lv' := [(3, .int ((yw v3) + (1 : Int32))), (0, .ref v0), (1, .ref v1), (2, .int (yw v2))]) (st' := []) rfl ?_
          refine xZ.eqs (lv2 := [(3, .int (yw (v3 + 1))), (0, .ref v0), (1, .ref v1), (2, .int (yw v2))]) (st2 := []) (by simp only [yl_lit, yL_lit, yw_add, yw_sub, yw_mul, yw_neg, yl_add, yl_sub, yl_mul, cj_and, cj_or, cj_xor, cj_shl, cj_shr, cj_ushr, cj_div, cj_i2c, cj_i2b, cj_dc, ck_and, ck_or, ck_xor, ck_shl, ck_shr, ck_ushr, ck_i2l, ck_l2i, ck_cmp]) rfl ?_
          exact xZ.sub (xsc (.tail _ (.head _)) (xsc (.tail _ (.tail _ (.head _))) (xsc (.tail _ (.tail _ (.tail _ (.head _)))) (xsc (.head _) xsn)))) (show ([3, 0, 1, 2] : List Nat).Nodup from by decide) (ih v0 v1 v2 (v3 + 1) M)
        · skip
          refine xZ.adv (me := xm230) hP_230 2 (pc' := 35) (lv' := [(0, .ref v0), (1, .ref v1), (2, .int (yw v2)), (3, .int (yw v3))]) (st' := [.ref v0, .ref v0]) rfl ?_
          refine xZ.k_gR (me := xm230) hP_230 rfl (fun x7 => ?_)
          refine xZ.adv (me := xm230) hP_230 1 (pc' := 39) (lv' := [(0, .ref v0), (1, .ref v1), (2, .int (yw v2)), (3, .int (yw v3))]) (st' := [.int (yw v3), .ref x7, .ref v0]) rfl ?_
          refine xZ.k_aJ (me := xm230) hP_230 rfl (fun x8 => ?_)
          refine xZ.callv (κ := oR) (av := [.int (yw x8)]) (rest := []) (st' := fun x9 => [.ref x9]) (k0 := v0) (me := xm230) hP_230 rfl (Or.inl rfl) ⟨rfl, by decide⟩ rfl rfl (Nat.le_of_ble_eq_true rfl) (by decide) hP_29 (Nat.le_of_ble_eq_true rfl) (fun _ => rfl) (k_f_Hall_anySeries O f (d + 5) v0 x8 M) (fun x9 M1 => ?_)
          refine xZ.adv (me := xm230) hP_230 2 (pc' := 47) (lv' := [(4, .ref x9), (0, .ref v0), (1, .ref v1), (2, .int (yw v2)), (3, .int (yw v3))]) (st' := [.ref x9]) rfl ?_
          refine xZ.k_gJ (me := xm230) hP_230 rfl (fun x10 => ?_)
          refine xZ.jf_eq (me := xm230) hP_230 rfl (fun h4 => ?_) (fun h4 => ?_)
          · skip
            refine xZ.adv (me := xm230) hP_230 2 (pc' := 2) (lv' := [(3, .int ((yw v3) + (1 : Int32))), (4, .ref x9), (0, .ref v0), (1, .ref v1), (2, .int (yw v2))]) (st' := []) rfl ?_
            refine xZ.eqs (lv2 := [(3, .int (yw (v3 + 1))), (4, .ref x9), (0, .ref v0), (1, .ref v1), (2, .int (yw v2))]) (st2 := []) (by simp only [yl_lit, yL_lit, yw_add, yw_sub, yw_mul, yw_neg, yl_add, yl_sub, yl_mul, cj_and, cj_or, cj_xor, cj_shl, cj_shr, cj_ushr, cj_div, cj_i2c, cj_i2b, cj_dc, ck_and, ck_or, ck_xor, ck_shl, ck_shr, ck_ushr, ck_i2l, ck_l2i, ck_cmp]) rfl ?_
            exact xZ.sub (xsc (.tail _ (.tail _ (.head _))) (xsc (.tail _ (.tail _ (.tail _ (.head _)))) (xsc (.tail _ (.tail _ (.tail _ (.tail _ (.head _))))) (xsc (.head _) xsn)))) (show ([3, 4, 0, 1, 2] : List Nat).Nodup from by decide) (ih v0 v1 v2 (v3 + 1) M1)
          · skip
            refine xZ.adv (me := xm230) hP_230 4 (pc' := 58) (lv' := [(4, .ref x9), (0, .ref v0), (1, .ref v1), (2, .int (yw v2)), (3, .int (yw v3))]) (st' := [.ref v0, .int (yw v3), .ref v1, .ref x9]) rfl ?_
            refine xZ.k_gR (me := xm230) hP_230 rfl (fun x11 => ?_)
            refine xZ.adv (me := xm230) hP_230 1 (pc' := 62) (lv' := [(4, .ref x9), (0, .ref v0), (1, .ref v1), (2, .int (yw v2)), (3, .int (yw v3))]) (st' := [.int (yw v3), .ref x11, .int (yw v3), .ref v1, .ref x9]) rfl ?_
            refine xZ.k_aJ (me := xm230) hP_230 rfl (fun x12 => ?_)
            refine xZ.adv (me := xm230) hP_230 2 (pc' := 66) (lv' := [(4, .ref x9), (0, .ref v0), (1, .ref v1), (2, .int (yw v2)), (3, .int (yw v3))]) (st' := [.ref x9, .ref v0, .int (yw x12), .int (yw v3), .ref v1, .ref x9]) rfl ?_
            refine xZ.callv (κ := oR) (av := [.ref x9]) (rest := [.int (yw x12), .int (yw v3), .ref v1, .ref x9]) (st' := fun x13 => [.ref x13, .int (yw x12), .int (yw v3), .ref v1, .ref x9]) (k0 := v0) (me := xm230) hP_230 rfl (Or.inl rfl) ⟨rfl, by decide⟩ rfl rfl (Nat.le_of_ble_eq_true rfl) (by decide) hP_102 (Nat.le_of_ble_eq_true rfl) (fun _ => rfl) (k_f_Hall_zoneOf O f (d + 4) v0 x9 M1) (fun x13 M2 => ?_)
            refine xZ.adv (me := xm230) hP_230 1 (pc' := 70) (lv' := [(4, .ref x9), (0, .ref v0), (1, .ref v1), (2, .int (yw v2)), (3, .int (yw v3))]) (st' := [.ref v0, .ref x13, .int (yw x12), .int (yw v3), .ref v1, .ref x9]) rfl ?_
            refine xZ.k_gJ (me := xm230) hP_230 rfl (fun x14 => ?_)
            refine xZ.adv (me := xm230) hP_230 5 (pc' := 78) (lv' := [(4, .ref x9), (0, .ref v0), (1, .ref v1), (2, .int (yw v2)), (3, .int (yw v3))]) (st' := [.int ((yw v2) + (1 : Int32)), .int ((yw x14) + (1 : Int32)), .ref x13, .int (yw x12), .int (yw v3), .ref v1, .ref x9]) rfl ?_
            refine xZ.eqs (lv2 := [(4, .ref x9), (0, .ref v0), (1, .ref v1), (2, .int (yw v2)), (3, .int (yw v3))]) (st2 := [.int (yw (v2 + 1)), .int (yw (x14 + 1)), .ref x13, .int (yw x12), .int (yw v3), .ref v1, .ref x9]) rfl (by simp only [yl_lit, yL_lit, yw_add, yw_sub, yw_mul, yw_neg, yl_add, yl_sub, yl_mul, cj_and, cj_or, cj_xor, cj_shl, cj_shr, cj_ushr, cj_div, cj_i2c, cj_i2b, cj_dc, ck_and, ck_or, ck_xor, ck_shl, ck_shr, ck_ushr, ck_i2l, ck_l2i, ck_cmp]) ?_
            refine xZ.callv (κ := oU) (av := [.ref v1, .int (yw v3), .int (yw x12), .ref x13, .int (yw (x14 + 1)), .int (yw (v2 + 1))]) (rest := []) (st' := fun _ => []) (k0 := x9) (me := xm230) hP_230 rfl (Or.inl rfl) ⟨rfl, by decide⟩ rfl rfl (Nat.le_of_ble_eq_true rfl) (by decide) hP_164 (Nat.le_of_ble_eq_true rfl) (fun _ => rfl) (k_f_Series_addRows O f (d + 0) x9 v1 v3 x12 x13 (x14 + 1) (v2 + 1) M2) (fun _ M3 => ?_)
            refine xZ.adv (me := xm230) hP_230 2 (pc' := 2) (lv' := [(3, .int ((yw v3) + (1 : Int32))), (4, .ref x9), (0, .ref v0), (1, .ref v1), (2, .int (yw v2))]) (st' := []) rfl ?_
            refine xZ.eqs (lv2 := [(3, .int (yw (v3 + 1))), (4, .ref x9), (0, .ref v0), (1, .ref v1), (2, .int (yw v2))]) (st2 := []) (by simp only [yl_lit, yL_lit, yw_add, yw_sub, yw_mul, yw_neg, yl_add, yl_sub, yl_mul, cj_and, cj_or, cj_xor, cj_shl, cj_shr, cj_ushr, cj_div, cj_i2c, cj_i2b, cj_dc, ck_and, ck_or, ck_xor, ck_shl, ck_shr, ck_ushr, ck_i2l, ck_l2i, ck_cmp]) rfl ?_
            exact xZ.sub (xsc (.tail _ (.tail _ (.head _))) (xsc (.tail _ (.tail _ (.tail _ (.head _)))) (xsc (.tail _ (.tail _ (.tail _ (.tail _ (.head _))))) (xsc (.head _) xsn)))) (show ([3, 4, 0, 1, 2] : List Nat).Nodup from by decide) (ih v0 v1 v2 (v3 + 1) M3)
def f_Hall_collectRings (O : Nat → Option va_E) (f : Nat) (v0 : Nat) (v1 : Nat) (v2 : Int) (M : xM) : Option (Unit × xM) :=
  f_Hall_collectRings_2 O f f v0 v1 v2 0 M
set_option maxRecDepth 20000 in
theorem k_f_Hall_collectRings (O : Nat → Option va_E) (f d : Nat) (v0 : Nat) (v1 : Nat) (v2 : Int) (M : xM) : xZ oU O (d + 6) 230 0 [(0, .ref v0), (1, .ref v1), (2, .int (yw v2))] [] M (f_Hall_collectRings O f v0 v1 v2 M) := by
  unfold f_Hall_collectRings
  refine xZ.adv (me := xm230) hP_230 2 (pc' := 2) (lv' := [(3, .int (0 : Int32)), (0, .ref v0), (1, .ref v1), (2, .int (yw v2))]) (st' := []) rfl ?_
  refine xZ.eqs (lv2 := [(3, .int (yw 0)), (0, .ref v0), (1, .ref v1), (2, .int (yw v2))]) (st2 := []) (by simp only [yl_lit, yL_lit, yw_add, yw_sub, yw_mul, yw_neg, yl_add, yl_sub, yl_mul, cj_and, cj_or, cj_xor, cj_shl, cj_shr, cj_ushr, cj_div, cj_i2c, cj_i2b, cj_dc, ck_and, ck_or, ck_xor, ck_shl, ck_shr, ck_ushr, ck_i2l, ck_l2i, ck_cmp]) rfl ?_
  exact xZ.sub (xsc (.tail _ (.head _)) (xsc (.tail _ (.tail _ (.head _))) (xsc (.tail _ (.tail _ (.tail _ (.head _)))) (xsc (.head _) xsn)))) (show ([3, 0, 1, 2] : List Nat).Nodup from by decide) (k_f_Hall_collectRings_2 O f d f v0 v1 v2 0 M)
def f_Hall_takeSnoozes_77 (O : Nat → Option va_E) (f : Nat) (v0 : Nat) (v3 : Int) (M : xM) : Option (Unit × xM) :=
  (pJ M v0 4 11 v3).bind fun M1 =>
  some ((), M1)
set_option maxRecDepth 20000 in
theorem k_f_Hall_takeSnoozes_77 (O : Nat → Option va_E) (f d : Nat) (v0 : Nat) (v3 : Int) (M : xM) : xZ oU O (d + 2) 231 77 [(0, .ref v0), (3, .int (yw v3))] [] M (f_Hall_takeSnoozes_77 O f v0 v3 M) := by
  unfold f_Hall_takeSnoozes_77
  refine xZ.adv (me := xm231) hP_231 2 (pc' := 79) (lv' := [(0, .ref v0), (3, .int (yw v3))]) (st' := [.int (yw v3), .ref v0]) rfl ?_
  refine xZ.k_pJ (me := xm231) hP_231 rfl (fun M1 => ?_)
  exact xZ.retu (me := xm231) hP_231 rfl rfl
def f_Hall_takeSnoozes_5 (O : Nat → Option va_E) (f : Nat) : Nat → Nat → Nat → Int → Int → Int → xM → Option (Unit × xM)
  | 0, _, _, _, _, _, _ => none
  | n + 1, v0, v1, v2, v3, v4, M =>
    (gJ O M v0 4 11).bind fun x1 =>
    if yw x1 ≤ yw v4 then (
      f_Hall_takeSnoozes_77 O f v0 v3 M
    ) else
    (gR O M v0 4 10).bind fun x2 =>
    (aJN O M x2).bind fun x3 =>
    if yw x3 ≤ yw v4 then (
      f_Hall_takeSnoozes_77 O f v0 v3 M
    ) else
    (gR O M v0 4 10).bind fun x4 =>
    (aK O M x4 v4).bind fun x5 =>
    xcl (f_Dates_minuteOf O f x5 M) fun x6 M1 =>
    if yw v2 < yw x6 then (
      (gR O M1 v0 4 10).bind fun x7 =>
      (aJN O M1 x7).bind fun x8 =>
      if yw x8 ≤ yw v3 then (
        f_Hall_takeSnoozes_5 O f n v0 v1 v2 v3 (v4 + 1) M1
      ) else
      (gR O M1 v0 4 10).bind fun x9 =>
      (wK M1 x9 v3 x5).bind fun M2 =>
      f_Hall_takeSnoozes_5 O f n v0 v1 v2 (v3 + 1) (v4 + 1) M2
    ) else
    (isO O M1 v1 2).bind fun _ =>
    xcl (f_Dates_add O f v1 x5 M1) fun _ M3 =>
    f_Hall_takeSnoozes_5 O f n v0 v1 v2 v3 (v4 + 1) M3
set_option maxRecDepth 20000 in
theorem k_f_Hall_takeSnoozes_5 (O : Nat → Option va_E) (f d : Nat) : ∀ (n : Nat) (v0 : Nat) (v1 : Nat) (v2 : Int) (v3 : Int) (v4 : Int) (M : xM), xZ oU O (d + 2) 231 5 [(0, .ref v0), (1, .ref v1), (2, .int (yw v2)), (3, .int (yw v3)), (4, .int (yw v4))] [] M (f_Hall_takeSnoozes_5 O f n v0 v1 v2 v3 v4 M) := by
  intro n
  induction n with
  | zero =>
    intro v0 v1 v2 v3 v4 M
    exact xZ.no
  | succ n ih =>
    intro v0 v1 v2 v3 v4 M
    unfold f_Hall_takeSnoozes_5
    refine xZ.adv (me := xm231) hP_231 2 (pc' := 8) (lv' := [(0, .ref v0), (1, .ref v1), (2, .int (yw v2)), (3, .int (yw v3)), (4, .int (yw v4))]) (st' := [.ref v0, .int (yw v4)]) rfl ?_
    refine xZ.k_gJ (me := xm231) hP_231 rfl (fun x1 => ?_)
    refine xZ.jc_ge (me := xm231) hP_231 rfl (fun h1 => ?_) (fun h1 => ?_)
    · skip
      exact xZ.sub (xsc (.head _) (xsc (.tail _ (.tail _ (.tail _ (.head _)))) xsn)) (show ([0, 1, 2, 3, 4] : List Nat).Nodup from by decide) (k_f_Hall_takeSnoozes_77 O f d v0 v3 M)
    · skip
      refine xZ.adv (me := xm231) hP_231 2 (pc' := 17) (lv' := [(0, .ref v0), (1, .ref v1), (2, .int (yw v2)), (3, .int (yw v3)), (4, .int (yw v4))]) (st' := [.ref v0, .int (yw v4)]) rfl ?_
      refine xZ.k_gR (me := xm231) hP_231 rfl (fun x2 => ?_)
      refine xZ.k_aJN (me := xm231) hP_231 rfl (fun x3 => ?_)
      refine xZ.jc_ge (me := xm231) hP_231 rfl (fun h2 => ?_) (fun h2 => ?_)
      · skip
        exact xZ.sub (xsc (.head _) (xsc (.tail _ (.tail _ (.tail _ (.head _)))) xsn)) (show ([0, 1, 2, 3, 4] : List Nat).Nodup from by decide) (k_f_Hall_takeSnoozes_77 O f d v0 v3 M)
      · skip
        refine xZ.adv (me := xm231) hP_231 1 (pc' := 25) (lv' := [(0, .ref v0), (1, .ref v1), (2, .int (yw v2)), (3, .int (yw v3)), (4, .int (yw v4))]) (st' := [.ref v0]) rfl ?_
        refine xZ.k_gR (me := xm231) hP_231 rfl (fun x4 => ?_)
        refine xZ.adv (me := xm231) hP_231 1 (pc' := 30) (lv' := [(0, .ref v0), (1, .ref v1), (2, .int (yw v2)), (3, .int (yw v3)), (4, .int (yw v4))]) (st' := [.int (yw v4), .ref x4]) rfl ?_
        refine xZ.k_aK (me := xm231) hP_231 rfl (fun x5 => ?_)
        refine xZ.adv (me := xm231) hP_231 2 (pc' := 35) (lv' := [(5, .long (yl x5)), (0, .ref v0), (1, .ref v1), (2, .int (yw v2)), (3, .int (yw v3)), (4, .int (yw v4))]) (st' := [.long (yl x5)]) rfl ?_
        refine xZ.calls (κ := oJ) (av := [.long (yl x5)]) (rest := []) (st' := fun x6 => [.int (yw x6)]) (me := xm231) hP_231 rfl rfl rfl (Nat.le_of_ble_eq_true rfl) (by decide) hP_172 (Nat.le_of_ble_eq_true rfl) (fun _ => rfl) (k_f_Dates_minuteOf O f (d + 1) x5 M) (fun x6 M1 => ?_)
        refine xZ.adv (me := xm231) hP_231 1 (pc' := 39) (lv' := [(5, .long (yl x5)), (0, .ref v0), (1, .ref v1), (2, .int (yw v2)), (3, .int (yw v3)), (4, .int (yw v4))]) (st' := [.int (yw v2), .int (yw x6)]) rfl ?_
        refine xZ.jc_gt (me := xm231) hP_231 rfl (fun h3 => ?_) (fun h3 => ?_)
        · skip
          refine xZ.adv (me := xm231) hP_231 2 (pc' := 53) (lv' := [(5, .long (yl x5)), (0, .ref v0), (1, .ref v1), (2, .int (yw v2)), (3, .int (yw v3)), (4, .int (yw v4))]) (st' := [.ref v0, .int (yw v3)]) rfl ?_
          refine xZ.k_gR (me := xm231) hP_231 rfl (fun x7 => ?_)
          refine xZ.k_aJN (me := xm231) hP_231 rfl (fun x8 => ?_)
          refine xZ.jc_ge (me := xm231) hP_231 rfl (fun h4 => ?_) (fun h4 => ?_)
          · skip
            refine xZ.adv (me := xm231) hP_231 2 (pc' := 5) (lv' := [(4, .int ((yw v4) + (1 : Int32))), (5, .long (yl x5)), (0, .ref v0), (1, .ref v1), (2, .int (yw v2)), (3, .int (yw v3))]) (st' := []) rfl ?_
            refine xZ.eqs (lv2 := [(4, .int (yw (v4 + 1))), (5, .long (yl x5)), (0, .ref v0), (1, .ref v1), (2, .int (yw v2)), (3, .int (yw v3))]) (st2 := []) (by simp only [yl_lit, yL_lit, yw_add, yw_sub, yw_mul, yw_neg, yl_add, yl_sub, yl_mul, cj_and, cj_or, cj_xor, cj_shl, cj_shr, cj_ushr, cj_div, cj_i2c, cj_i2b, cj_dc, ck_and, ck_or, ck_xor, ck_shl, ck_shr, ck_ushr, ck_i2l, ck_l2i, ck_cmp]) rfl ?_
            exact xZ.sub (xsc (.tail _ (.tail _ (.head _))) (xsc (.tail _ (.tail _ (.tail _ (.head _)))) (xsc (.tail _ (.tail _ (.tail _ (.tail _ (.head _))))) (xsc (.tail _ (.tail _ (.tail _ (.tail _ (.tail _ (.head _)))))) (xsc (.head _) xsn))))) (show ([4, 5, 0, 1, 2, 3] : List Nat).Nodup from by decide) (ih v0 v1 v2 v3 (v4 + 1) M1)
          · skip
            refine xZ.adv (me := xm231) hP_231 1 (pc' := 61) (lv' := [(5, .long (yl x5)), (0, .ref v0), (1, .ref v1), (2, .int (yw v2)), (3, .int (yw v3)), (4, .int (yw v4))]) (st' := [.ref v0]) rfl ?_
            refine xZ.k_gR (me := xm231) hP_231 rfl (fun x9 => ?_)
            refine xZ.adv (me := xm231) hP_231 2 (pc' := 67) (lv' := [(5, .long (yl x5)), (0, .ref v0), (1, .ref v1), (2, .int (yw v2)), (3, .int (yw v3)), (4, .int (yw v4))]) (st' := [.long (yl x5), .int (yw v3), .ref x9]) rfl ?_
            refine xZ.k_wK (me := xm231) hP_231 rfl (fun M2 => ?_)
            refine xZ.adv (me := xm231) hP_231 3 (pc' := 5) (lv' := [(4, .int ((yw v4) + (1 : Int32))), (3, .int ((yw v3) + (1 : Int32))), (5, .long (yl x5)), (0, .ref v0), (1, .ref v1), (2, .int (yw v2))]) (st' := []) rfl ?_
            refine xZ.eqs (lv2 := [(4, .int (yw (v4 + 1))), (3, .int (yw (v3 + 1))), (5, .long (yl x5)), (0, .ref v0), (1, .ref v1), (2, .int (yw v2))]) (st2 := []) (by simp only [yl_lit, yL_lit, yw_add, yw_sub, yw_mul, yw_neg, yl_add, yl_sub, yl_mul, cj_and, cj_or, cj_xor, cj_shl, cj_shr, cj_ushr, cj_div, cj_i2c, cj_i2b, cj_dc, ck_and, ck_or, ck_xor, ck_shl, ck_shr, ck_ushr, ck_i2l, ck_l2i, ck_cmp]) rfl ?_
            exact xZ.sub (xsc (.tail _ (.tail _ (.tail _ (.head _)))) (xsc (.tail _ (.tail _ (.tail _ (.tail _ (.head _))))) (xsc (.tail _ (.tail _ (.tail _ (.tail _ (.tail _ (.head _)))))) (xsc (.tail _ (.head _)) (xsc (.head _) xsn))))) (show ([4, 3, 5, 0, 1, 2] : List Nat).Nodup from by decide) (ih v0 v1 v2 (v3 + 1) (v4 + 1) M2)
        · skip
          refine xZ.adv (me := xm231) hP_231 2 (pc' := 45) (lv' := [(5, .long (yl x5)), (0, .ref v0), (1, .ref v1), (2, .int (yw v2)), (3, .int (yw v3)), (4, .int (yw v4))]) (st' := [.long (yl x5), .ref v1]) rfl ?_
          refine xZ.callv (κ := oU) (av := [.long (yl x5)]) (rest := []) (st' := fun _ => []) (k0 := v1) (me := xm231) hP_231 rfl (Or.inl rfl) ⟨rfl, by decide⟩ rfl rfl (Nat.le_of_ble_eq_true rfl) (by decide) hP_166 (Nat.le_of_ble_eq_true rfl) (fun _ => rfl) (k_f_Dates_add O f (d + 0) v1 x5 M1) (fun _ M3 => ?_)
          refine xZ.adv (me := xm231) hP_231 3 (pc' := 5) (lv' := [(4, .int ((yw v4) + (1 : Int32))), (5, .long (yl x5)), (0, .ref v0), (1, .ref v1), (2, .int (yw v2)), (3, .int (yw v3))]) (st' := []) rfl ?_
          refine xZ.eqs (lv2 := [(4, .int (yw (v4 + 1))), (5, .long (yl x5)), (0, .ref v0), (1, .ref v1), (2, .int (yw v2)), (3, .int (yw v3))]) (st2 := []) (by simp only [yl_lit, yL_lit, yw_add, yw_sub, yw_mul, yw_neg, yl_add, yl_sub, yl_mul, cj_and, cj_or, cj_xor, cj_shl, cj_shr, cj_ushr, cj_div, cj_i2c, cj_i2b, cj_dc, ck_and, ck_or, ck_xor, ck_shl, ck_shr, ck_ushr, ck_i2l, ck_l2i, ck_cmp]) rfl ?_
          exact xZ.sub (xsc (.tail _ (.tail _ (.head _))) (xsc (.tail _ (.tail _ (.tail _ (.head _)))) (xsc (.tail _ (.tail _ (.tail _ (.tail _ (.head _))))) (xsc (.tail _ (.tail _ (.tail _ (.tail _ (.tail _ (.head _)))))) (xsc (.head _) xsn))))) (show ([4, 5, 0, 1, 2, 3] : List Nat).Nodup from by decide) (ih v0 v1 v2 v3 (v4 + 1) M3)
def f_Hall_takeSnoozes (O : Nat → Option va_E) (f : Nat) (v0 : Nat) (v1 : Nat) (v2 : Int) (M : xM) : Option (Unit × xM) :=
  f_Hall_takeSnoozes_5 O f f v0 v1 v2 0 0 M
set_option maxRecDepth 20000 in
theorem k_f_Hall_takeSnoozes (O : Nat → Option va_E) (f d : Nat) (v0 : Nat) (v1 : Nat) (v2 : Int) (M : xM) : xZ oU O (d + 2) 231 0 [(0, .ref v0), (1, .ref v1), (2, .int (yw v2))] [] M (f_Hall_takeSnoozes O f v0 v1 v2 M) := by
  unfold f_Hall_takeSnoozes
  refine xZ.adv (me := xm231) hP_231 4 (pc' := 5) (lv' := [(4, .int (0 : Int32)), (3, .int (0 : Int32)), (0, .ref v0), (1, .ref v1), (2, .int (yw v2))]) (st' := []) rfl ?_
  refine xZ.eqs (lv2 := [(4, .int (yw 0)), (3, .int (yw 0)), (0, .ref v0), (1, .ref v1), (2, .int (yw v2))]) (st2 := []) (by simp only [yl_lit, yL_lit, yw_add, yw_sub, yw_mul, yw_neg, yl_add, yl_sub, yl_mul, cj_and, cj_or, cj_xor, cj_shl, cj_shr, cj_ushr, cj_div, cj_i2c, cj_i2b, cj_dc, ck_and, ck_or, ck_xor, ck_shl, ck_shr, ck_ushr, ck_i2l, ck_l2i, ck_cmp]) rfl ?_
  exact xZ.sub (xsc (.tail _ (.tail _ (.head _))) (xsc (.tail _ (.tail _ (.tail _ (.head _)))) (xsc (.tail _ (.tail _ (.tail _ (.tail _ (.head _))))) (xsc (.tail _ (.head _)) (xsc (.head _) xsn))))) (show ([4, 3, 0, 1, 2] : List Nat).Nodup from by decide) (k_f_Hall_takeSnoozes_5 O f d f v0 v1 v2 0 0 M)
def f_Hall_keepRing_30 (O : Nat → Option va_E) (f : Nat) (v0 : Nat) (v1 : Int) (M : xM) : Option (Unit × xM) :=
  (gJ O M v0 4 9).bind fun x1 =>
  if yw 0 ≤ yw x1 then (
    (gR O M v0 4 8).bind fun x2 =>
    (gJ O M v0 4 9).bind fun x3 =>
    (wK M x2 x3 v1).bind fun M1 =>
    (gJ O M1 v0 4 9).bind fun x4 =>
    (pJ M1 v0 4 9 (x4 + 1)).bind fun M2 =>
    some ((), M2)
  ) else
  some ((), M)
set_option maxRecDepth 20000 in
theorem k_f_Hall_keepRing_30 (O : Nat → Option va_E) (f d : Nat) (v0 : Nat) (v1 : Int) (M : xM) : xZ oU O (d + 0) 232 30 [(0, .ref v0), (1, .long (yl v1))] [] M (f_Hall_keepRing_30 O f v0 v1 M) := by
  unfold f_Hall_keepRing_30
  refine xZ.adv (me := xm232) hP_232 1 (pc' := 31) (lv' := [(0, .ref v0), (1, .long (yl v1))]) (st' := [.ref v0]) rfl ?_
  refine xZ.k_gJ (me := xm232) hP_232 rfl (fun x1 => ?_)
  refine xZ.jf_ge (me := xm232) hP_232 rfl (fun h1 => ?_) (fun h1 => ?_)
  · skip
    refine xZ.adv (me := xm232) hP_232 1 (pc' := 39) (lv' := [(0, .ref v0), (1, .long (yl v1))]) (st' := [.ref v0]) rfl ?_
    refine xZ.k_gR (me := xm232) hP_232 rfl (fun x2 => ?_)
    refine xZ.adv (me := xm232) hP_232 1 (pc' := 43) (lv' := [(0, .ref v0), (1, .long (yl v1))]) (st' := [.ref v0, .ref x2]) rfl ?_
    refine xZ.k_gJ (me := xm232) hP_232 rfl (fun x3 => ?_)
    refine xZ.adv (me := xm232) hP_232 1 (pc' := 47) (lv' := [(0, .ref v0), (1, .long (yl v1))]) (st' := [.long (yl v1), .int (yw x3), .ref x2]) rfl ?_
    refine xZ.k_wK (me := xm232) hP_232 rfl (fun M1 => ?_)
    refine xZ.adv (me := xm232) hP_232 2 (pc' := 50) (lv' := [(0, .ref v0), (1, .long (yl v1))]) (st' := [.ref v0, .ref v0]) rfl ?_
    refine xZ.k_gJ (me := xm232) hP_232 rfl (fun x4 => ?_)
    refine xZ.adv (me := xm232) hP_232 2 (pc' := 55) (lv' := [(0, .ref v0), (1, .long (yl v1))]) (st' := [.int ((yw x4) + (1 : Int32)), .ref v0]) rfl ?_
    refine xZ.eqs (lv2 := [(0, .ref v0), (1, .long (yl v1))]) (st2 := [.int (yw (x4 + 1)), .ref v0]) rfl (by simp only [yl_lit, yL_lit, yw_add, yw_sub, yw_mul, yw_neg, yl_add, yl_sub, yl_mul, cj_and, cj_or, cj_xor, cj_shl, cj_shr, cj_ushr, cj_div, cj_i2c, cj_i2b, cj_dc, ck_and, ck_or, ck_xor, ck_shl, ck_shr, ck_ushr, ck_i2l, ck_l2i, ck_cmp]) ?_
    refine xZ.k_pJ (me := xm232) hP_232 rfl (fun M2 => ?_)
    exact xZ.retu (me := xm232) hP_232 rfl rfl
  · skip
    exact xZ.retu (me := xm232) hP_232 rfl rfl
def f_Hall_keepRing (O : Nat → Option va_E) (f : Nat) (v0 : Nat) (v1 : Int) (M : xM) : Option (Unit × xM) :=
  (gJ O M v0 4 9).bind fun x1 =>
  if yw x1 < yw 30 then (
    f_Hall_keepRing_30 O f v0 v1 M
  ) else
  (gR O M v0 4 8).bind fun x2 =>
  (gR O M v0 4 8).bind fun x3 =>
  (cpJ O M x2 1 x3 0 29).bind fun M1 =>
  (pJ M1 v0 4 9 29).bind fun M2 =>
  f_Hall_keepRing_30 O f v0 v1 M2
set_option maxRecDepth 20000 in
theorem k_f_Hall_keepRing (O : Nat → Option va_E) (f d : Nat) (v0 : Nat) (v1 : Int) (M : xM) : xZ oU O (d + 0) 232 0 [(0, .ref v0), (1, .long (yl v1))] [] M (f_Hall_keepRing O f v0 v1 M) := by
  unfold f_Hall_keepRing
  refine xZ.adv (me := xm232) hP_232 1 (pc' := 1) (lv' := [(0, .ref v0), (1, .long (yl v1))]) (st' := [.ref v0]) rfl ?_
  refine xZ.k_gJ (me := xm232) hP_232 rfl (fun x1 => ?_)
  refine xZ.adv (me := xm232) hP_232 1 (pc' := 6) (lv' := [(0, .ref v0), (1, .long (yl v1))]) (st' := [.int (30 : Int32), .int (yw x1)]) rfl ?_
  refine xZ.eqs (lv2 := [(0, .ref v0), (1, .long (yl v1))]) (st2 := [.int (yw 30), .int (yw x1)]) rfl (by simp only [yl_lit, yL_lit, yw_add, yw_sub, yw_mul, yw_neg, yl_add, yl_sub, yl_mul, cj_and, cj_or, cj_xor, cj_shl, cj_shr, cj_ushr, cj_div, cj_i2c, cj_i2b, cj_dc, ck_and, ck_or, ck_xor, ck_shl, ck_shr, ck_ushr, ck_i2l, ck_l2i, ck_cmp]) ?_
  refine xZ.jc_lt (me := xm232) hP_232 rfl (fun h1 => ?_) (fun h1 => ?_)
  · skip
    exact (k_f_Hall_keepRing_30 O f d v0 v1 M)
  · skip
    refine xZ.adv (me := xm232) hP_232 1 (pc' := 10) (lv' := [(0, .ref v0), (1, .long (yl v1))]) (st' := [.ref v0]) rfl ?_
    refine xZ.k_gR (me := xm232) hP_232 rfl (fun x2 => ?_)
    refine xZ.adv (me := xm232) hP_232 2 (pc' := 15) (lv' := [(0, .ref v0), (1, .long (yl v1))]) (st' := [.ref v0, .int (1 : Int32), .ref x2]) rfl ?_
    refine xZ.eqs (lv2 := [(0, .ref v0), (1, .long (yl v1))]) (st2 := [.ref v0, .int (yw 1), .ref x2]) rfl (by simp only [yl_lit, yL_lit, yw_add, yw_sub, yw_mul, yw_neg, yl_add, yl_sub, yl_mul, cj_and, cj_or, cj_xor, cj_shl, cj_shr, cj_ushr, cj_div, cj_i2c, cj_i2b, cj_dc, ck_and, ck_or, ck_xor, ck_shl, ck_shr, ck_ushr, ck_i2l, ck_l2i, ck_cmp]) ?_
    refine xZ.k_gR (me := xm232) hP_232 rfl (fun x3 => ?_)
    refine xZ.adv (me := xm232) hP_232 2 (pc' := 21) (lv' := [(0, .ref v0), (1, .long (yl v1))]) (st' := [.int (29 : Int32), .int (0 : Int32), .ref x3, .int (yw 1), .ref x2]) rfl ?_
    refine xZ.eqs (lv2 := [(0, .ref v0), (1, .long (yl v1))]) (st2 := [.int (yw 29), .int (yw 0), .ref x3, .int (yw 1), .ref x2]) rfl (by simp only [yl_lit, yL_lit, yw_add, yw_sub, yw_mul, yw_neg, yl_add, yl_sub, yl_mul, cj_and, cj_or, cj_xor, cj_shl, cj_shr, cj_ushr, cj_div, cj_i2c, cj_i2b, cj_dc, ck_and, ck_or, ck_xor, ck_shl, ck_shr, ck_ushr, ck_i2l, ck_l2i, ck_cmp]) ?_
    refine xZ.k_cpJ (me := xm232) hP_232 rfl (Nat.le_of_ble_eq_true rfl) (fun M1 => ?_)
    refine xZ.adv (me := xm232) hP_232 2 (pc' := 27) (lv' := [(0, .ref v0), (1, .long (yl v1))]) (st' := [.int (29 : Int32), .ref v0]) rfl ?_
    refine xZ.eqs (lv2 := [(0, .ref v0), (1, .long (yl v1))]) (st2 := [.int (yw 29), .ref v0]) rfl (by simp only [yl_lit, yL_lit, yw_add, yw_sub, yw_mul, yw_neg, yl_add, yl_sub, yl_mul, cj_and, cj_or, cj_xor, cj_shl, cj_shr, cj_ushr, cj_div, cj_i2c, cj_i2b, cj_dc, ck_and, ck_or, ck_xor, ck_shl, ck_shr, ck_ushr, ck_i2l, ck_l2i, ck_cmp]) ?_
    refine xZ.k_pJ (me := xm232) hP_232 rfl (fun M2 => ?_)
    exact (k_f_Hall_keepRing_30 O f d v0 v1 M2)
def f_Calendarhall_pass_97 (O : Nat → Option va_E) (f : Nat) : Nat → Nat → Int → xM → Option (Int × xM)
  | 0, _, _, _ => none
  | n + 1, v0, v2, M =>
    (gR O M v0 12 4).bind fun x1 =>
    (gJ O M x1 2 0).bind fun x2 =>
    if yw x2 ≤ yw v2 then (
      (gR O M v0 12 4).bind fun x3 =>
      (gJ O M x3 2 0).bind fun x4 =>
      some (x4, M)
    ) else
    (gR O M v0 12 0).bind fun x5 =>
    (gR O M v0 12 4).bind fun x6 =>
    (isO O M x6 2).bind fun _ =>
    xcl (f_Dates_rowAt O f x6 v2 M) fun x7 M1 =>
    (isO O M1 x5 4).bind fun _ =>
    xcl (f_Hall_keepRing O f x5 x7 M1) fun _ M2 =>
    f_Calendarhall_pass_97 O f n v0 (v2 + 1) M2
set_option maxRecDepth 20000 in
theorem k_f_Calendarhall_pass_97 (O : Nat → Option va_E) (f d : Nat) : ∀ (n : Nat) (v0 : Nat) (v2 : Int) (M : xM), xZ oJ O (d + 7) 229 97 [(0, .ref v0), (2, .int (yw v2))] [] M (f_Calendarhall_pass_97 O f n v0 v2 M) := by
  intro n
  induction n with
  | zero =>
    intro v0 v2 M
    exact xZ.no
  | succ n ih =>
    intro v0 v2 M
    unfold f_Calendarhall_pass_97
    refine xZ.adv (me := xm229) hP_229 2 (pc' := 99) (lv' := [(0, .ref v0), (2, .int (yw v2))]) (st' := [.ref v0, .int (yw v2)]) rfl ?_
    refine xZ.k_gR (me := xm229) hP_229 rfl (fun x1 => ?_)
    refine xZ.k_gJ (me := xm229) hP_229 rfl (fun x2 => ?_)
    refine xZ.jc_ge (me := xm229) hP_229 rfl (fun h1 => ?_) (fun h1 => ?_)
    · skip
      refine xZ.adv (me := xm229) hP_229 1 (pc' := 130) (lv' := [(0, .ref v0), (2, .int (yw v2))]) (st' := [.ref v0]) rfl ?_
      refine xZ.k_gR (me := xm229) hP_229 rfl (fun x3 => ?_)
      refine xZ.k_gJ (me := xm229) hP_229 rfl (fun x4 => ?_)
      exact xZ.jreti (me := xm229) hP_229 rfl rfl
    · skip
      refine xZ.adv (me := xm229) hP_229 1 (pc' := 109) (lv' := [(0, .ref v0), (2, .int (yw v2))]) (st' := [.ref v0]) rfl ?_
      refine xZ.k_gR (me := xm229) hP_229 rfl (fun x5 => ?_)
      refine xZ.adv (me := xm229) hP_229 1 (pc' := 113) (lv' := [(0, .ref v0), (2, .int (yw v2))]) (st' := [.ref v0, .ref x5]) rfl ?_
      refine xZ.k_gR (me := xm229) hP_229 rfl (fun x6 => ?_)
      refine xZ.adv (me := xm229) hP_229 1 (pc' := 117) (lv' := [(0, .ref v0), (2, .int (yw v2))]) (st' := [.int (yw v2), .ref x6, .ref x5]) rfl ?_
      refine xZ.callv (κ := oK) (av := [.int (yw v2)]) (rest := [.ref x5]) (st' := fun x7 => [.long (yl x7), .ref x5]) (k0 := x6) (me := xm229) hP_229 rfl (Or.inl rfl) ⟨rfl, by decide⟩ rfl rfl (Nat.le_of_ble_eq_true rfl) (by decide) hP_167 (Nat.le_of_ble_eq_true rfl) (fun _ => rfl) (k_f_Dates_rowAt O f (d + 6) x6 v2 M) (fun x7 M1 => ?_)
      refine xZ.callv (κ := oU) (av := [.long (yl x7)]) (rest := []) (st' := fun _ => []) (k0 := x5) (me := xm229) hP_229 rfl (Or.inl rfl) ⟨rfl, by decide⟩ rfl rfl (Nat.le_of_ble_eq_true rfl) (by decide) hP_232 (Nat.le_of_ble_eq_true rfl) (fun _ => rfl) (k_f_Hall_keepRing O f (d + 6) x5 x7 M1) (fun _ M2 => ?_)
      refine xZ.adv (me := xm229) hP_229 2 (pc' := 97) (lv' := [(2, .int ((yw v2) + (1 : Int32))), (0, .ref v0)]) (st' := []) rfl ?_
      refine xZ.eqs (lv2 := [(2, .int (yw (v2 + 1))), (0, .ref v0)]) (st2 := []) (by simp only [yl_lit, yL_lit, yw_add, yw_sub, yw_mul, yw_neg, yl_add, yl_sub, yl_mul, cj_and, cj_or, cj_xor, cj_shl, cj_shr, cj_ushr, cj_div, cj_i2c, cj_i2b, cj_dc, ck_and, ck_or, ck_xor, ck_shl, ck_shr, ck_ushr, ck_i2l, ck_l2i, ck_cmp]) rfl ?_
      exact xZ.sub (xsc (.tail _ (.head _)) (xsc (.head _) xsn)) (show ([2, 0] : List Nat).Nodup from by decide) (ih v0 (v2 + 1) M2)
def f_Calendarhall_pass (O : Nat → Option va_E) (f : Nat) (v0 : Nat) (v1 : Int) (M : xM) : Option (Int × xM) :=
  xcl (f_Calendarhall_needRange O f v1 1 1440 M) fun _ M1 =>
  (gR O M1 v0 12 0).bind fun x2 =>
  (gJ O M1 x2 4 5).bind fun x3 =>
  if yw (x3 + v1) ≤ yw 210240000 then (
    (isO O M1 v0 12).bind fun _ =>
    xcl (f_Calendarhall_saveForUndo O f v0 M1) fun _ M2 =>
    (gR O M2 v0 12 4).bind fun x5 =>
    (isO O M2 x5 2).bind fun _ =>
    xcl (f_Dates_clear O f x5 M2) fun _ M3 =>
    (gR O M3 v0 12 0).bind fun x7 =>
    (gR O M3 v0 12 4).bind fun x8 =>
    (gR O M3 v0 12 0).bind fun x9 =>
    (gJ O M3 x9 4 5).bind fun x10 =>
    (isO O M3 x7 4).bind fun _ =>
    xcl (f_Hall_collectRings O f x7 x8 (x10 + v1) M3) fun _ M4 =>
    (gR O M4 v0 12 0).bind fun x12 =>
    (gR O M4 v0 12 4).bind fun x13 =>
    (gR O M4 v0 12 0).bind fun x14 =>
    (gJ O M4 x14 4 5).bind fun x15 =>
    (isO O M4 x12 4).bind fun _ =>
    xcl (f_Hall_takeSnoozes O f x12 x13 (x15 + v1) M4) fun _ M5 =>
    (gR O M5 v0 12 0).bind fun x17 =>
    (gJ O M5 x17 4 5).bind fun x18 =>
    (pJ M5 x17 4 5 (x18 + v1)).bind fun M6 =>
    f_Calendarhall_pass_97 O f f v0 0 M6
  ) else
  none
set_option maxRecDepth 20000 in
theorem k_f_Calendarhall_pass (O : Nat → Option va_E) (f d : Nat) (v0 : Nat) (v1 : Int) (M : xM) : xZ oJ O (d + 7) 229 0 [(0, .ref v0), (1, .int (yw v1))] [] M (f_Calendarhall_pass O f v0 v1 M) := by
  unfold f_Calendarhall_pass
  refine xZ.adv (me := xm229) hP_229 3 (pc' := 5) (lv' := [(0, .ref v0), (1, .int (yw v1))]) (st' := [.int (1440 : Int32), .int (1 : Int32), .int (yw v1)]) rfl ?_
  refine xZ.eqs (lv2 := [(0, .ref v0), (1, .int (yw v1))]) (st2 := [.int (yw 1440), .int (yw 1), .int (yw v1)]) rfl (by simp only [yl_lit, yL_lit, yw_add, yw_sub, yw_mul, yw_neg, yl_add, yl_sub, yl_mul, cj_and, cj_or, cj_xor, cj_shl, cj_shr, cj_ushr, cj_div, cj_i2c, cj_i2b, cj_dc, ck_and, ck_or, ck_xor, ck_shl, ck_shr, ck_ushr, ck_i2l, ck_l2i, ck_cmp]) ?_
  refine xZ.calls (κ := oU) (av := [.int (yw v1), .int (yw 1), .int (yw 1440)]) (rest := []) (st' := fun _ => []) (me := xm229) hP_229 rfl rfl rfl (Nat.le_of_ble_eq_true rfl) (by decide) hP_22 (Nat.le_of_ble_eq_true rfl) (fun _ => rfl) (k_f_Calendarhall_needRange O f (d + 6) v1 1 1440 M) (fun _ M1 => ?_)
  refine xZ.adv (me := xm229) hP_229 1 (pc' := 9) (lv' := [(0, .ref v0), (1, .int (yw v1))]) (st' := [.ref v0]) rfl ?_
  refine xZ.k_gR (me := xm229) hP_229 rfl (fun x2 => ?_)
  refine xZ.k_gJ (me := xm229) hP_229 rfl (fun x3 => ?_)
  refine xZ.adv (me := xm229) hP_229 3 (pc' := 20) (lv' := [(0, .ref v0), (1, .int (yw v1))]) (st' := [.int (210240000 : Int32), .int ((yw x3) + (yw v1))]) rfl ?_
  refine xZ.eqs (lv2 := [(0, .ref v0), (1, .int (yw v1))]) (st2 := [.int (yw 210240000), .int (yw (x3 + v1))]) rfl (by simp only [yl_lit, yL_lit, yw_add, yw_sub, yw_mul, yw_neg, yl_add, yl_sub, yl_mul, cj_and, cj_or, cj_xor, cj_shl, cj_shr, cj_ushr, cj_div, cj_i2c, cj_i2b, cj_dc, ck_and, ck_or, ck_xor, ck_shl, ck_shr, ck_ushr, ck_i2l, ck_l2i, ck_cmp]) ?_
  refine xZ.jc_le (me := xm229) hP_229 rfl (fun h1 => ?_) (fun h1 => ?_)
  · skip
    refine xZ.adv (me := xm229) hP_229 1 (pc' := 32) (lv' := [(0, .ref v0), (1, .int (yw v1))]) (st' := [.ref v0]) rfl ?_
    refine xZ.callv (κ := oU) (av := []) (rest := []) (st' := fun _ => []) (k0 := v0) (me := xm229) hP_229 rfl (Or.inl rfl) ⟨rfl, by decide⟩ rfl rfl (Nat.le_of_ble_eq_true rfl) (by decide) hP_23 (Nat.le_of_ble_eq_true rfl) (fun _ => rfl) (k_f_Calendarhall_saveForUndo O f (d + 2) v0 M1) (fun _ M2 => ?_)
    refine xZ.adv (me := xm229) hP_229 1 (pc' := 36) (lv' := [(0, .ref v0), (1, .int (yw v1))]) (st' := [.ref v0]) rfl ?_
    refine xZ.k_gR (me := xm229) hP_229 rfl (fun x5 => ?_)
    refine xZ.callv (κ := oU) (av := []) (rest := []) (st' := fun _ => []) (k0 := x5) (me := xm229) hP_229 rfl (Or.inl rfl) ⟨rfl, by decide⟩ rfl rfl (Nat.le_of_ble_eq_true rfl) (by decide) hP_163 (Nat.le_of_ble_eq_true rfl) (fun _ => rfl) (k_f_Dates_clear O f (d + 6) x5 M2) (fun _ M3 => ?_)
    refine xZ.adv (me := xm229) hP_229 1 (pc' := 43) (lv' := [(0, .ref v0), (1, .int (yw v1))]) (st' := [.ref v0]) rfl ?_
    refine xZ.k_gR (me := xm229) hP_229 rfl (fun x7 => ?_)
    refine xZ.adv (me := xm229) hP_229 1 (pc' := 47) (lv' := [(0, .ref v0), (1, .int (yw v1))]) (st' := [.ref v0, .ref x7]) rfl ?_
    refine xZ.k_gR (me := xm229) hP_229 rfl (fun x8 => ?_)
    refine xZ.adv (me := xm229) hP_229 1 (pc' := 51) (lv' := [(0, .ref v0), (1, .int (yw v1))]) (st' := [.ref v0, .ref x8, .ref x7]) rfl ?_
    refine xZ.k_gR (me := xm229) hP_229 rfl (fun x9 => ?_)
    refine xZ.k_gJ (me := xm229) hP_229 rfl (fun x10 => ?_)
    refine xZ.adv (me := xm229) hP_229 2 (pc' := 59) (lv' := [(0, .ref v0), (1, .int (yw v1))]) (st' := [.int ((yw x10) + (yw v1)), .ref x8, .ref x7]) rfl ?_
    refine xZ.eqs (lv2 := [(0, .ref v0), (1, .int (yw v1))]) (st2 := [.int (yw (x10 + v1)), .ref x8, .ref x7]) rfl (by simp only [yl_lit, yL_lit, yw_add, yw_sub, yw_mul, yw_neg, yl_add, yl_sub, yl_mul, cj_and, cj_or, cj_xor, cj_shl, cj_shr, cj_ushr, cj_div, cj_i2c, cj_i2b, cj_dc, ck_and, ck_or, ck_xor, ck_shl, ck_shr, ck_ushr, ck_i2l, ck_l2i, ck_cmp]) ?_
    refine xZ.callv (κ := oU) (av := [.ref x8, .int (yw (x10 + v1))]) (rest := []) (st' := fun _ => []) (k0 := x7) (me := xm229) hP_229 rfl (Or.inl rfl) ⟨rfl, by decide⟩ rfl rfl (Nat.le_of_ble_eq_true rfl) (by decide) hP_230 (Nat.le_of_ble_eq_true rfl) (fun _ => rfl) (k_f_Hall_collectRings O f (d + 0) x7 x8 (x10 + v1) M3) (fun _ M4 => ?_)
    refine xZ.adv (me := xm229) hP_229 1 (pc' := 63) (lv' := [(0, .ref v0), (1, .int (yw v1))]) (st' := [.ref v0]) rfl ?_
    refine xZ.k_gR (me := xm229) hP_229 rfl (fun x12 => ?_)
    refine xZ.adv (me := xm229) hP_229 1 (pc' := 67) (lv' := [(0, .ref v0), (1, .int (yw v1))]) (st' := [.ref v0, .ref x12]) rfl ?_
    refine xZ.k_gR (me := xm229) hP_229 rfl (fun x13 => ?_)
    refine xZ.adv (me := xm229) hP_229 1 (pc' := 71) (lv' := [(0, .ref v0), (1, .int (yw v1))]) (st' := [.ref v0, .ref x13, .ref x12]) rfl ?_
    refine xZ.k_gR (me := xm229) hP_229 rfl (fun x14 => ?_)
    refine xZ.k_gJ (me := xm229) hP_229 rfl (fun x15 => ?_)
    refine xZ.adv (me := xm229) hP_229 2 (pc' := 79) (lv' := [(0, .ref v0), (1, .int (yw v1))]) (st' := [.int ((yw x15) + (yw v1)), .ref x13, .ref x12]) rfl ?_
    refine xZ.eqs (lv2 := [(0, .ref v0), (1, .int (yw v1))]) (st2 := [.int (yw (x15 + v1)), .ref x13, .ref x12]) rfl (by simp only [yl_lit, yL_lit, yw_add, yw_sub, yw_mul, yw_neg, yl_add, yl_sub, yl_mul, cj_and, cj_or, cj_xor, cj_shl, cj_shr, cj_ushr, cj_div, cj_i2c, cj_i2b, cj_dc, ck_and, ck_or, ck_xor, ck_shl, ck_shr, ck_ushr, ck_i2l, ck_l2i, ck_cmp]) ?_
    refine xZ.callv (κ := oU) (av := [.ref x13, .int (yw (x15 + v1))]) (rest := []) (st' := fun _ => []) (k0 := x12) (me := xm229) hP_229 rfl (Or.inl rfl) ⟨rfl, by decide⟩ rfl rfl (Nat.le_of_ble_eq_true rfl) (by decide) hP_231 (Nat.le_of_ble_eq_true rfl) (fun _ => rfl) (k_f_Hall_takeSnoozes O f (d + 4) x12 x13 (x15 + v1) M4) (fun _ M5 => ?_)
    refine xZ.adv (me := xm229) hP_229 1 (pc' := 83) (lv' := [(0, .ref v0), (1, .int (yw v1))]) (st' := [.ref v0]) rfl ?_
    refine xZ.k_gR (me := xm229) hP_229 rfl (fun x17 => ?_)
    refine xZ.adv (me := xm229) hP_229 1 (pc' := 87) (lv' := [(0, .ref v0), (1, .int (yw v1))]) (st' := [.ref x17, .ref x17]) rfl ?_
    refine xZ.k_gJ (me := xm229) hP_229 rfl (fun x18 => ?_)
    refine xZ.adv (me := xm229) hP_229 2 (pc' := 92) (lv' := [(0, .ref v0), (1, .int (yw v1))]) (st' := [.int ((yw x18) + (yw v1)), .ref x17]) rfl ?_
    refine xZ.eqs (lv2 := [(0, .ref v0), (1, .int (yw v1))]) (st2 := [.int (yw (x18 + v1)), .ref x17]) rfl (by simp only [yl_lit, yL_lit, yw_add, yw_sub, yw_mul, yw_neg, yl_add, yl_sub, yl_mul, cj_and, cj_or, cj_xor, cj_shl, cj_shr, cj_ushr, cj_div, cj_i2c, cj_i2b, cj_dc, ck_and, ck_or, ck_xor, ck_shl, ck_shr, ck_ushr, ck_i2l, ck_l2i, ck_cmp]) ?_
    refine xZ.k_pJ (me := xm229) hP_229 rfl (fun M6 => ?_)
    refine xZ.adv (me := xm229) hP_229 2 (pc' := 97) (lv' := [(2, .int (0 : Int32)), (0, .ref v0), (1, .int (yw v1))]) (st' := []) rfl ?_
    refine xZ.eqs (lv2 := [(2, .int (yw 0)), (0, .ref v0), (1, .int (yw v1))]) (st2 := []) (by simp only [yl_lit, yL_lit, yw_add, yw_sub, yw_mul, yw_neg, yl_add, yl_sub, yl_mul, cj_and, cj_or, cj_xor, cj_shl, cj_shr, cj_ushr, cj_div, cj_i2c, cj_i2b, cj_dc, ck_and, ck_or, ck_xor, ck_shl, ck_shr, ck_ushr, ck_i2l, ck_l2i, ck_cmp]) rfl ?_
    exact xZ.sub (xsc (.tail _ (.head _)) (xsc (.head _) xsn)) (show ([2, 0, 1] : List Nat).Nodup from by decide) (k_f_Calendarhall_pass_97 O f d f v0 0 M6)
  · skip
    exact xZ.no
def f_Hall_ringNumbered_22 (O : Nat → Option va_E) (f : Nat)  (M : xM) : Option (Int × xM) :=
  some (0, M)
set_option maxRecDepth 20000 in
theorem k_f_Hall_ringNumbered_22 (O : Nat → Option va_E) (f d : Nat)  (M : xM) : xZ oK O (d + 0) 234 22 [] [] M (f_Hall_ringNumbered_22 O f  M) := by
  unfold f_Hall_ringNumbered_22
  refine xZ.adv (me := xm234) hP_234 1 (pc' := 23) (lv' := []) (st' := [.long (0 : Int64)]) rfl ?_
  refine xZ.eqs (lv2 := []) (st2 := [.long (yl 0)]) rfl (by simp only [yl_lit, yL_lit, yw_add, yw_sub, yw_mul, yw_neg, yl_add, yl_sub, yl_mul, cj_and, cj_or, cj_xor, cj_shl, cj_shr, cj_ushr, cj_div, cj_i2c, cj_i2b, cj_dc, ck_and, ck_or, ck_xor, ck_shl, ck_shr, ck_ushr, ck_i2l, ck_l2i, ck_cmp]) ?_
  exact xZ.jretl (me := xm234) hP_234 rfl rfl
def f_Hall_ringNumbered (O : Nat → Option va_E) (f : Nat) (v0 : Nat) (v1 : Int) (M : xM) : Option (Int × xM) :=
  if yw v1 < yw 0 then (
    f_Hall_ringNumbered_22 O f M
  ) else
  (gR O M v0 4 8).bind fun x1 =>
  (aJN O M x1).bind fun x2 =>
  if yw x2 ≤ yw v1 then (
    f_Hall_ringNumbered_22 O f M
  ) else
  (gR O M v0 4 8).bind fun x3 =>
  (aK O M x3 v1).bind fun x4 =>
  some (x4, M)
set_option maxRecDepth 20000 in
theorem k_f_Hall_ringNumbered (O : Nat → Option va_E) (f d : Nat) (v0 : Nat) (v1 : Int) (M : xM) : xZ oK O (d + 0) 234 0 [(0, .ref v0), (1, .int (yw v1))] [] M (f_Hall_ringNumbered O f v0 v1 M) := by
  unfold f_Hall_ringNumbered
  refine xZ.adv (me := xm234) hP_234 1 (pc' := 1) (lv' := [(0, .ref v0), (1, .int (yw v1))]) (st' := [.int (yw v1)]) rfl ?_
  refine xZ.jf_lt (me := xm234) hP_234 rfl (fun h1 => ?_) (fun h1 => ?_)
  · skip
    exact xZ.sub xsn (show ([0, 1] : List Nat).Nodup from by decide) (k_f_Hall_ringNumbered_22 O f d M)
  · skip
    refine xZ.adv (me := xm234) hP_234 2 (pc' := 6) (lv' := [(0, .ref v0), (1, .int (yw v1))]) (st' := [.ref v0, .int (yw v1)]) rfl ?_
    refine xZ.k_gR (me := xm234) hP_234 rfl (fun x1 => ?_)
    refine xZ.k_aJN (me := xm234) hP_234 rfl (fun x2 => ?_)
    refine xZ.jc_ge (me := xm234) hP_234 rfl (fun h2 => ?_) (fun h2 => ?_)
    · skip
      exact xZ.sub xsn (show ([0, 1] : List Nat).Nodup from by decide) (k_f_Hall_ringNumbered_22 O f d M)
    · skip
      refine xZ.adv (me := xm234) hP_234 1 (pc' := 14) (lv' := [(0, .ref v0), (1, .int (yw v1))]) (st' := [.ref v0]) rfl ?_
      refine xZ.k_gR (me := xm234) hP_234 rfl (fun x3 => ?_)
      refine xZ.adv (me := xm234) hP_234 1 (pc' := 18) (lv' := [(0, .ref v0), (1, .int (yw v1))]) (st' := [.int (yw v1), .ref x3]) rfl ?_
      refine xZ.k_aK (me := xm234) hP_234 rfl (fun x4 => ?_)
      refine xZ.adv (me := xm234) hP_234 1 (pc' := 23) (lv' := [(0, .ref v0), (1, .int (yw v1))]) (st' := [.long (yl x4)]) rfl ?_
      exact xZ.jretl (me := xm234) hP_234 rfl rfl
def f_Dates_flagOf (O : Nat → Option va_E) (f : Nat) (v0 : Int) (M : xM) : Option (Int × xM) :=
  some ((jand v0 1), M)
set_option maxRecDepth 20000 in
theorem k_f_Dates_flagOf (O : Nat → Option va_E) (f d : Nat) (v0 : Int) (M : xM) : xZ oJ O (d + 0) 235 0 [(0, .long (yl v0))] [] M (f_Dates_flagOf O f v0 M) := by
  unfold f_Dates_flagOf
  refine xZ.adv (me := xm235) hP_235 4 (pc' := 4) (lv' := [(0, .long (yl v0))]) (st' := [.int ((Int64.toInt32 (yl v0)) &&& (1 : Int32))]) rfl ?_
  refine xZ.eqs (lv2 := [(0, .long (yl v0))]) (st2 := [.int (yw (jand v0 1))]) rfl (by simp only [yl_lit, yL_lit, yw_add, yw_sub, yw_mul, yw_neg, yl_add, yl_sub, yl_mul, cj_and, cj_or, cj_xor, cj_shl, cj_shr, cj_ushr, cj_div, cj_i2c, cj_i2b, cj_dc, ck_and, ck_or, ck_xor, ck_shl, ck_shr, ck_ushr, ck_i2l, ck_l2i, ck_cmp]) ?_
  exact xZ.jreti (me := xm235) hP_235 rfl rfl
def f_Calendarhall_ringAt (O : Nat → Option va_E) (f : Nat) (v0 : Nat) (v1 : Int) (v2 : Int) (M : xM) : Option (Int × xM) :=
  if yw v1 < yw 0 then (
    none
  ) else
  (gR O M v0 12 0).bind fun x1 =>
  (gJ O M x1 4 9).bind fun x2 =>
  if yw v1 < yw x2 then (
    xcl (f_Calendarhall_needRange O f v2 0 3 M) fun _ M1 =>
    (gR O M1 v0 12 0).bind fun x4 =>
    (isO O M1 x4 4).bind fun _ =>
    xcl (f_Hall_ringNumbered O f x4 v1 M1) fun x5 M2 =>
    if yw v2 = yw 0 then (
      xcl (f_Dates_numberOf O f x5 M2) fun x6 M3 =>
      some (x6, M3)
    ) else
    if yw v2 = yw 1 then (
      xcl (f_Dates_dayIn O f x5 M2) fun x7 M4 =>
      some (x7, M4)
    ) else
    if yw v2 = yw 2 then (
      xcl (f_Dates_minuteOf O f x5 M2) fun x8 M5 =>
      some (x8, M5)
    ) else
    xcl (f_Dates_flagOf O f x5 M2) fun x9 M6 =>
    some (x9, M6)
  ) else
  none
set_option maxRecDepth 20000 in
theorem k_f_Calendarhall_ringAt (O : Nat → Option va_E) (f d : Nat) (v0 : Nat) (v1 : Int) (v2 : Int) (M : xM) : xZ oJ O (d + 1) 233 0 [(0, .ref v0), (1, .int (yw v1)), (2, .int (yw v2))] [] M (f_Calendarhall_ringAt O f v0 v1 v2 M) := by
  unfold f_Calendarhall_ringAt
  refine xZ.adv (me := xm233) hP_233 1 (pc' := 1) (lv' := [(0, .ref v0), (1, .int (yw v1)), (2, .int (yw v2))]) (st' := [.int (yw v1)]) rfl ?_
  refine xZ.jf_lt (me := xm233) hP_233 rfl (fun h1 => ?_) (fun h1 => ?_)
  · skip
    exact xZ.no
  · skip
    refine xZ.adv (me := xm233) hP_233 2 (pc' := 6) (lv' := [(0, .ref v0), (1, .int (yw v1)), (2, .int (yw v2))]) (st' := [.ref v0, .int (yw v1)]) rfl ?_
    refine xZ.k_gR (me := xm233) hP_233 rfl (fun x1 => ?_)
    refine xZ.k_gJ (me := xm233) hP_233 rfl (fun x2 => ?_)
    refine xZ.jc_lt (me := xm233) hP_233 rfl (fun h2 => ?_) (fun h2 => ?_)
    · skip
      refine xZ.adv (me := xm233) hP_233 3 (pc' := 26) (lv' := [(0, .ref v0), (1, .int (yw v1)), (2, .int (yw v2))]) (st' := [.int (3 : Int32), .int (0 : Int32), .int (yw v2)]) rfl ?_
      refine xZ.eqs (lv2 := [(0, .ref v0), (1, .int (yw v1)), (2, .int (yw v2))]) (st2 := [.int (yw 3), .int (yw 0), .int (yw v2)]) rfl (by simp only [yl_lit, yL_lit, yw_add, yw_sub, yw_mul, yw_neg, yl_add, yl_sub, yl_mul, cj_and, cj_or, cj_xor, cj_shl, cj_shr, cj_ushr, cj_div, cj_i2c, cj_i2b, cj_dc, ck_and, ck_or, ck_xor, ck_shl, ck_shr, ck_ushr, ck_i2l, ck_l2i, ck_cmp]) ?_
      refine xZ.calls (κ := oU) (av := [.int (yw v2), .int (yw 0), .int (yw 3)]) (rest := []) (st' := fun _ => []) (me := xm233) hP_233 rfl rfl rfl (Nat.le_of_ble_eq_true rfl) (by decide) hP_22 (Nat.le_of_ble_eq_true rfl) (fun _ => rfl) (k_f_Calendarhall_needRange O f (d + 0) v2 0 3 M) (fun _ M1 => ?_)
      refine xZ.adv (me := xm233) hP_233 1 (pc' := 30) (lv' := [(0, .ref v0), (1, .int (yw v1)), (2, .int (yw v2))]) (st' := [.ref v0]) rfl ?_
      refine xZ.k_gR (me := xm233) hP_233 rfl (fun x4 => ?_)
      refine xZ.adv (me := xm233) hP_233 1 (pc' := 34) (lv' := [(0, .ref v0), (1, .int (yw v1)), (2, .int (yw v2))]) (st' := [.int (yw v1), .ref x4]) rfl ?_
      refine xZ.callv (κ := oK) (av := [.int (yw v1)]) (rest := []) (st' := fun x5 => [.long (yl x5)]) (k0 := x4) (me := xm233) hP_233 rfl (Or.inl rfl) ⟨rfl, by decide⟩ rfl rfl (Nat.le_of_ble_eq_true rfl) (by decide) hP_234 (Nat.le_of_ble_eq_true rfl) (fun _ => rfl) (k_f_Hall_ringNumbered O f (d + 0) x4 v1 M1) (fun x5 M2 => ?_)
      refine xZ.adv (me := xm233) hP_233 2 (pc' := 39) (lv' := [(3, .long (yl x5)), (0, .ref v0), (1, .int (yw v1)), (2, .int (yw v2))]) (st' := [.int (yw v2)]) rfl ?_
      refine xZ.jf_ne (me := xm233) hP_233 rfl (fun h3 => ?_) (fun h3 => ?_)
      · skip
        refine xZ.adv (me := xm233) hP_233 1 (pc' := 43) (lv' := [(3, .long (yl x5)), (0, .ref v0), (1, .int (yw v1)), (2, .int (yw v2))]) (st' := [.long (yl x5)]) rfl ?_
        refine xZ.calls (κ := oJ) (av := [.long (yl x5)]) (rest := []) (st' := fun x6 => [.int (yw x6)]) (me := xm233) hP_233 rfl rfl rfl (Nat.le_of_ble_eq_true rfl) (by decide) hP_174 (Nat.le_of_ble_eq_true rfl) (fun _ => rfl) (k_f_Dates_numberOf O f (d + 0) x5 M2) (fun x6 M3 => ?_)
        exact xZ.jreti (me := xm233) hP_233 rfl rfl
      · skip
        refine xZ.adv (me := xm233) hP_233 2 (pc' := 49) (lv' := [(3, .long (yl x5)), (0, .ref v0), (1, .int (yw v1)), (2, .int (yw v2))]) (st' := [.int (1 : Int32), .int (yw v2)]) rfl ?_
        refine xZ.eqs (lv2 := [(3, .long (yl x5)), (0, .ref v0), (1, .int (yw v1)), (2, .int (yw v2))]) (st2 := [.int (yw 1), .int (yw v2)]) rfl (by simp only [yl_lit, yL_lit, yw_add, yw_sub, yw_mul, yw_neg, yl_add, yl_sub, yl_mul, cj_and, cj_or, cj_xor, cj_shl, cj_shr, cj_ushr, cj_div, cj_i2c, cj_i2b, cj_dc, ck_and, ck_or, ck_xor, ck_shl, ck_shr, ck_ushr, ck_i2l, ck_l2i, ck_cmp]) ?_
        refine xZ.jc_ne (me := xm233) hP_233 rfl (fun h4 => ?_) (fun h4 => ?_)
        · skip
          refine xZ.adv (me := xm233) hP_233 1 (pc' := 53) (lv' := [(3, .long (yl x5)), (0, .ref v0), (1, .int (yw v1)), (2, .int (yw v2))]) (st' := [.long (yl x5)]) rfl ?_
          refine xZ.calls (κ := oJ) (av := [.long (yl x5)]) (rest := []) (st' := fun x7 => [.int (yw x7)]) (me := xm233) hP_233 rfl rfl rfl (Nat.le_of_ble_eq_true rfl) (by decide) hP_123 (Nat.le_of_ble_eq_true rfl) (fun _ => rfl) (k_f_Dates_dayIn O f (d + 0) x5 M2) (fun x7 M4 => ?_)
          exact xZ.jreti (me := xm233) hP_233 rfl rfl
        · skip
          refine xZ.adv (me := xm233) hP_233 2 (pc' := 59) (lv' := [(3, .long (yl x5)), (0, .ref v0), (1, .int (yw v1)), (2, .int (yw v2))]) (st' := [.int (2 : Int32), .int (yw v2)]) rfl ?_
          refine xZ.eqs (lv2 := [(3, .long (yl x5)), (0, .ref v0), (1, .int (yw v1)), (2, .int (yw v2))]) (st2 := [.int (yw 2), .int (yw v2)]) rfl (by simp only [yl_lit, yL_lit, yw_add, yw_sub, yw_mul, yw_neg, yl_add, yl_sub, yl_mul, cj_and, cj_or, cj_xor, cj_shl, cj_shr, cj_ushr, cj_div, cj_i2c, cj_i2b, cj_dc, ck_and, ck_or, ck_xor, ck_shl, ck_shr, ck_ushr, ck_i2l, ck_l2i, ck_cmp]) ?_
          refine xZ.jc_ne (me := xm233) hP_233 rfl (fun h5 => ?_) (fun h5 => ?_)
          · skip
            refine xZ.adv (me := xm233) hP_233 1 (pc' := 63) (lv' := [(3, .long (yl x5)), (0, .ref v0), (1, .int (yw v1)), (2, .int (yw v2))]) (st' := [.long (yl x5)]) rfl ?_
            refine xZ.calls (κ := oJ) (av := [.long (yl x5)]) (rest := []) (st' := fun x8 => [.int (yw x8)]) (me := xm233) hP_233 rfl rfl rfl (Nat.le_of_ble_eq_true rfl) (by decide) hP_172 (Nat.le_of_ble_eq_true rfl) (fun _ => rfl) (k_f_Dates_minuteOf O f (d + 0) x5 M2) (fun x8 M5 => ?_)
            refine xZ.adv (me := xm233) hP_233 1 (pc' := 73) (lv' := [(3, .long (yl x5)), (0, .ref v0), (1, .int (yw v1)), (2, .int (yw v2))]) (st' := [.int (yw x8)]) rfl ?_
            exact xZ.jreti (me := xm233) hP_233 rfl rfl
          · skip
            refine xZ.adv (me := xm233) hP_233 1 (pc' := 70) (lv' := [(3, .long (yl x5)), (0, .ref v0), (1, .int (yw v1)), (2, .int (yw v2))]) (st' := [.long (yl x5)]) rfl ?_
            refine xZ.calls (κ := oJ) (av := [.long (yl x5)]) (rest := []) (st' := fun x9 => [.int (yw x9)]) (me := xm233) hP_233 rfl rfl rfl (Nat.le_of_ble_eq_true rfl) (by decide) hP_235 (Nat.le_of_ble_eq_true rfl) (fun _ => rfl) (k_f_Dates_flagOf O f (d + 0) x5 M2) (fun x9 M6 => ?_)
            exact xZ.jreti (me := xm233) hP_233 rfl rfl
    · skip
      exact xZ.no
def f_Law_areRung_227 (O : Nat → Option va_E) (f : Nat) (K194 : Nat → Nat → Int → Int → Nat → Nat → Int → Int → Int → Int → Int → Int → Nat → Int → xM → Option (Int × xM)) (v0 : Nat) (v1 : Nat) (v2 : Int) (v3 : Int) (v4 : Nat) (v5 : Nat) (v6 : Int) (v7 : Int) (v8 : Int) (v9 : Int) (v11 : Int) (v12 : Nat) (v13 : Int) (s0 : Int) (s1 : Int) (M : xM) : Option (Int × xM) :=
  if yw v11 = yw 0 then (
    (gR O M v12 13 0).bind fun x1 =>
    (aJ O M x1 v13).bind fun x2 =>
    (aJ O M v4 0).bind fun x3 =>
    if yw x2 = yw x3 then (
      if yw v9 = yw (-1) then (
        some (0, M)
      ) else
      (gR O M v12 13 2).bind fun x4 =>
      (aJ O M x4 v13).bind fun x5 =>
      (aJ O M v5 0).bind fun x6 =>
      if yw v9 ≤ yw (x5 - x6) then (
        K194 v0 v1 v2 v3 v4 v5 v6 v7 v8 v9 (s0 + s1) v11 v12 (v13 + 1) M
      ) else
      some (0, M)
    ) else
    K194 v0 v1 v2 v3 v4 v5 v6 v7 v8 v9 (s0 + s1) v11 v12 (v13 + 1) M
  ) else
  K194 v0 v1 v2 v3 v4 v5 v6 v7 v8 v9 (s0 + s1) v11 v12 (v13 + 1) M
set_option maxRecDepth 20000 in
theorem k_f_Law_areRung_227 (O : Nat → Option va_E) (f d : Nat) (K194 : Nat → Nat → Int → Int → Nat → Nat → Int → Int → Int → Int → Int → Int → Nat → Int → xM → Option (Int × xM)) (hK194 : ∀ (v0 : Nat) (v1 : Nat) (v2 : Int) (v3 : Int) (v4 : Nat) (v5 : Nat) (v6 : Int) (v7 : Int) (v8 : Int) (v9 : Int) (v10 : Int) (v11 : Int) (v12 : Nat) (v13 : Int) M, xZ oJ O (d + 9) 220 194 [(0, .ref v0), (1, .ref v1), (2, .int (yw v2)), (3, .int (yw v3)), (4, .ref v4), (5, .ref v5), (6, .int (yw v6)), (7, .int (yw v7)), (8, .int (yw v8)), (9, .int (yw v9)), (10, .int (yw v10)), (11, .int (yw v11)), (12, .ref v12), (13, .int (yw v13))] [] M (K194 v0 v1 v2 v3 v4 v5 v6 v7 v8 v9 v10 v11 v12 v13 M)) (v0 : Nat) (v1 : Nat) (v2 : Int) (v3 : Int) (v4 : Nat) (v5 : Nat) (v6 : Int) (v7 : Int) (v8 : Int) (v9 : Int) (v11 : Int) (v12 : Nat) (v13 : Int) (s0 : Int) (s1 : Int) (M : xM) : xZ oJ O (d + 9) 220 227 [(0, .ref v0), (1, .ref v1), (2, .int (yw v2)), (3, .int (yw v3)), (4, .ref v4), (5, .ref v5), (6, .int (yw v6)), (7, .int (yw v7)), (8, .int (yw v8)), (9, .int (yw v9)), (11, .int (yw v11)), (12, .ref v12), (13, .int (yw v13))] [.int (yw s1), .int (yw s0)] M (f_Law_areRung_227 O f K194 v0 v1 v2 v3 v4 v5 v6 v7 v8 v9 v11 v12 v13 s0 s1 M) := by
  unfold f_Law_areRung_227
  refine xZ.adv (me := xm220) hP_220 3 (pc' := 232) (lv' := [(10, .int ((yw s0) + (yw s1))), (0, .ref v0), (1, .ref v1), (2, .int (yw v2)), (3, .int (yw v3)), (4, .ref v4), (5, .ref v5), (6, .int (yw v6)), (7, .int (yw v7)), (8, .int (yw v8)), (9, .int (yw v9)), (11, .int (yw v11)), (12, .ref v12), (13, .int (yw v13))]) (st' := [.int (yw v11)]) rfl ?_
  refine xZ.eqs (lv2 := [(10, .int (yw (s0 + s1))), (0, .ref v0), (1, .ref v1), (2, .int (yw v2)), (3, .int (yw v3)), (4, .ref v4), (5, .ref v5), (6, .int (yw v6)), (7, .int (yw v7)), (8, .int (yw v8)), (9, .int (yw v9)), (11, .int (yw v11)), (12, .ref v12), (13, .int (yw v13))]) (st2 := [.int (yw v11)]) (by simp only [yl_lit, yL_lit, yw_add, yw_sub, yw_mul, yw_neg, yl_add, yl_sub, yl_mul, cj_and, cj_or, cj_xor, cj_shl, cj_shr, cj_ushr, cj_div, cj_i2c, cj_i2b, cj_dc, ck_and, ck_or, ck_xor, ck_shl, ck_shr, ck_ushr, ck_i2l, ck_l2i, ck_cmp]) rfl ?_
  refine xZ.jf_ne (me := xm220) hP_220 rfl (fun h1 => ?_) (fun h1 => ?_)
  · skip
    refine xZ.adv (me := xm220) hP_220 1 (pc' := 237) (lv' := [(10, .int (yw (s0 + s1))), (0, .ref v0), (1, .ref v1), (2, .int (yw v2)), (3, .int (yw v3)), (4, .ref v4), (5, .ref v5), (6, .int (yw v6)), (7, .int (yw v7)), (8, .int (yw v8)), (9, .int (yw v9)), (11, .int (yw v11)), (12, .ref v12), (13, .int (yw v13))]) (st' := [.ref v12]) rfl ?_
    refine xZ.k_gR (me := xm220) hP_220 rfl (fun x1 => ?_)
    refine xZ.adv (me := xm220) hP_220 1 (pc' := 242) (lv' := [(10, .int (yw (s0 + s1))), (0, .ref v0), (1, .ref v1), (2, .int (yw v2)), (3, .int (yw v3)), (4, .ref v4), (5, .ref v5), (6, .int (yw v6)), (7, .int (yw v7)), (8, .int (yw v8)), (9, .int (yw v9)), (11, .int (yw v11)), (12, .ref v12), (13, .int (yw v13))]) (st' := [.int (yw v13), .ref x1]) rfl ?_
    refine xZ.k_aJ (me := xm220) hP_220 rfl (fun x2 => ?_)
    refine xZ.adv (me := xm220) hP_220 2 (pc' := 246) (lv' := [(10, .int (yw (s0 + s1))), (0, .ref v0), (1, .ref v1), (2, .int (yw v2)), (3, .int (yw v3)), (4, .ref v4), (5, .ref v5), (6, .int (yw v6)), (7, .int (yw v7)), (8, .int (yw v8)), (9, .int (yw v9)), (11, .int (yw v11)), (12, .ref v12), (13, .int (yw v13))]) (st' := [.int (0 : Int32), .ref v4, .int (yw x2)]) rfl ?_
    refine xZ.eqs (lv2 := [(10, .int (yw (s0 + s1))), (0, .ref v0), (1, .ref v1), (2, .int (yw v2)), (3, .int (yw v3)), (4, .ref v4), (5, .ref v5), (6, .int (yw v6)), (7, .int (yw v7)), (8, .int (yw v8)), (9, .int (yw v9)), (11, .int (yw v11)), (12, .ref v12), (13, .int (yw v13))]) (st2 := [.int (yw 0), .ref v4, .int (yw x2)]) rfl (by simp only [yl_lit, yL_lit, yw_add, yw_sub, yw_mul, yw_neg, yl_add, yl_sub, yl_mul, cj_and, cj_or, cj_xor, cj_shl, cj_shr, cj_ushr, cj_div, cj_i2c, cj_i2b, cj_dc, ck_and, ck_or, ck_xor, ck_shl, ck_shr, ck_ushr, ck_i2l, ck_l2i, ck_cmp]) ?_
    refine xZ.k_aJ (me := xm220) hP_220 rfl (fun x3 => ?_)
    refine xZ.jc_ne (me := xm220) hP_220 rfl (fun h2 => ?_) (fun h2 => ?_)
    · skip
      refine xZ.adv (me := xm220) hP_220 2 (pc' := 253) (lv' := [(10, .int (yw (s0 + s1))), (0, .ref v0), (1, .ref v1), (2, .int (yw v2)), (3, .int (yw v3)), (4, .ref v4), (5, .ref v5), (6, .int (yw v6)), (7, .int (yw v7)), (8, .int (yw v8)), (9, .int (yw v9)), (11, .int (yw v11)), (12, .ref v12), (13, .int (yw v13))]) (st' := [.int (-1 : Int32), .int (yw v9)]) rfl ?_
      refine xZ.eqs (lv2 := [(10, .int (yw (s0 + s1))), (0, .ref v0), (1, .ref v1), (2, .int (yw v2)), (3, .int (yw v3)), (4, .ref v4), (5, .ref v5), (6, .int (yw v6)), (7, .int (yw v7)), (8, .int (yw v8)), (9, .int (yw v9)), (11, .int (yw v11)), (12, .ref v12), (13, .int (yw v13))]) (st2 := [.int (yw (-1)), .int (yw v9)]) rfl (by simp only [yl_lit, yL_lit, yw_add, yw_sub, yw_mul, yw_neg, yl_add, yl_sub, yl_mul, cj_and, cj_or, cj_xor, cj_shl, cj_shr, cj_ushr, cj_div, cj_i2c, cj_i2b, cj_dc, ck_and, ck_or, ck_xor, ck_shl, ck_shr, ck_ushr, ck_i2l, ck_l2i, ck_cmp]) ?_
      refine xZ.jc_eq (me := xm220) hP_220 rfl (fun h3 => ?_) (fun h3 => ?_)
      · skip
        refine xZ.adv (me := xm220) hP_220 1 (pc' := 275) (lv' := [(10, .int (yw (s0 + s1))), (0, .ref v0), (1, .ref v1), (2, .int (yw v2)), (3, .int (yw v3)), (4, .ref v4), (5, .ref v5), (6, .int (yw v6)), (7, .int (yw v7)), (8, .int (yw v8)), (9, .int (yw v9)), (11, .int (yw v11)), (12, .ref v12), (13, .int (yw v13))]) (st' := [.int (0 : Int32)]) rfl ?_
        refine xZ.eqs (lv2 := [(10, .int (yw (s0 + s1))), (0, .ref v0), (1, .ref v1), (2, .int (yw v2)), (3, .int (yw v3)), (4, .ref v4), (5, .ref v5), (6, .int (yw v6)), (7, .int (yw v7)), (8, .int (yw v8)), (9, .int (yw v9)), (11, .int (yw v11)), (12, .ref v12), (13, .int (yw v13))]) (st2 := [.int (yw 0)]) rfl (by simp only [yl_lit, yL_lit, yw_add, yw_sub, yw_mul, yw_neg, yl_add, yl_sub, yl_mul, cj_and, cj_or, cj_xor, cj_shl, cj_shr, cj_ushr, cj_div, cj_i2c, cj_i2b, cj_dc, ck_and, ck_or, ck_xor, ck_shl, ck_shr, ck_ushr, ck_i2l, ck_l2i, ck_cmp]) ?_
        exact xZ.jrete (me := xm220) hP_220 rfl rfl rfl
      · skip
        refine xZ.adv (me := xm220) hP_220 2 (pc' := 260) (lv' := [(10, .int (yw (s0 + s1))), (0, .ref v0), (1, .ref v1), (2, .int (yw v2)), (3, .int (yw v3)), (4, .ref v4), (5, .ref v5), (6, .int (yw v6)), (7, .int (yw v7)), (8, .int (yw v8)), (9, .int (yw v9)), (11, .int (yw v11)), (12, .ref v12), (13, .int (yw v13))]) (st' := [.ref v12, .int (yw v9)]) rfl ?_
        refine xZ.k_gR (me := xm220) hP_220 rfl (fun x4 => ?_)
        refine xZ.adv (me := xm220) hP_220 1 (pc' := 265) (lv' := [(10, .int (yw (s0 + s1))), (0, .ref v0), (1, .ref v1), (2, .int (yw v2)), (3, .int (yw v3)), (4, .ref v4), (5, .ref v5), (6, .int (yw v6)), (7, .int (yw v7)), (8, .int (yw v8)), (9, .int (yw v9)), (11, .int (yw v11)), (12, .ref v12), (13, .int (yw v13))]) (st' := [.int (yw v13), .ref x4, .int (yw v9)]) rfl ?_
        refine xZ.k_aJ (me := xm220) hP_220 rfl (fun x5 => ?_)
        refine xZ.adv (me := xm220) hP_220 2 (pc' := 269) (lv' := [(10, .int (yw (s0 + s1))), (0, .ref v0), (1, .ref v1), (2, .int (yw v2)), (3, .int (yw v3)), (4, .ref v4), (5, .ref v5), (6, .int (yw v6)), (7, .int (yw v7)), (8, .int (yw v8)), (9, .int (yw v9)), (11, .int (yw v11)), (12, .ref v12), (13, .int (yw v13))]) (st' := [.int (0 : Int32), .ref v5, .int (yw x5), .int (yw v9)]) rfl ?_
        refine xZ.eqs (lv2 := [(10, .int (yw (s0 + s1))), (0, .ref v0), (1, .ref v1), (2, .int (yw v2)), (3, .int (yw v3)), (4, .ref v4), (5, .ref v5), (6, .int (yw v6)), (7, .int (yw v7)), (8, .int (yw v8)), (9, .int (yw v9)), (11, .int (yw v11)), (12, .ref v12), (13, .int (yw v13))]) (st2 := [.int (yw 0), .ref v5, .int (yw x5), .int (yw v9)]) rfl (by simp only [yl_lit, yL_lit, yw_add, yw_sub, yw_mul, yw_neg, yl_add, yl_sub, yl_mul, cj_and, cj_or, cj_xor, cj_shl, cj_shr, cj_ushr, cj_div, cj_i2c, cj_i2b, cj_dc, ck_and, ck_or, ck_xor, ck_shl, ck_shr, ck_ushr, ck_i2l, ck_l2i, ck_cmp]) ?_
        refine xZ.k_aJ (me := xm220) hP_220 rfl (fun x6 => ?_)
        refine xZ.adv (me := xm220) hP_220 1 (pc' := 271) (lv' := [(10, .int (yw (s0 + s1))), (0, .ref v0), (1, .ref v1), (2, .int (yw v2)), (3, .int (yw v3)), (4, .ref v4), (5, .ref v5), (6, .int (yw v6)), (7, .int (yw v7)), (8, .int (yw v8)), (9, .int (yw v9)), (11, .int (yw v11)), (12, .ref v12), (13, .int (yw v13))]) (st' := [.int ((yw x5) - (yw x6)), .int (yw v9)]) rfl ?_
        refine xZ.eqs (lv2 := [(10, .int (yw (s0 + s1))), (0, .ref v0), (1, .ref v1), (2, .int (yw v2)), (3, .int (yw v3)), (4, .ref v4), (5, .ref v5), (6, .int (yw v6)), (7, .int (yw v7)), (8, .int (yw v8)), (9, .int (yw v9)), (11, .int (yw v11)), (12, .ref v12), (13, .int (yw v13))]) (st2 := [.int (yw (x5 - x6)), .int (yw v9)]) rfl (by simp only [yl_lit, yL_lit, yw_add, yw_sub, yw_mul, yw_neg, yl_add, yl_sub, yl_mul, cj_and, cj_or, cj_xor, cj_shl, cj_shr, cj_ushr, cj_div, cj_i2c, cj_i2b, cj_dc, ck_and, ck_or, ck_xor, ck_shl, ck_shr, ck_ushr, ck_i2l, ck_l2i, ck_cmp]) ?_
        refine xZ.jc_le (me := xm220) hP_220 rfl (fun h4 => ?_) (fun h4 => ?_)
        · skip
          refine xZ.adv (me := xm220) hP_220 2 (pc' := 194) (lv' := [(13, .int ((yw v13) + (1 : Int32))), (10, .int (yw (s0 + s1))), (0, .ref v0), (1, .ref v1), (2, .int (yw v2)), (3, .int (yw v3)), (4, .ref v4), (5, .ref v5), (6, .int (yw v6)), (7, .int (yw v7)), (8, .int (yw v8)), (9, .int (yw v9)), (11, .int (yw v11)), (12, .ref v12)]) (st' := []) rfl ?_
          refine xZ.eqs (lv2 := [(13, .int (yw (v13 + 1))), (10, .int (yw (s0 + s1))), (0, .ref v0), (1, .ref v1), (2, .int (yw v2)), (3, .int (yw v3)), (4, .ref v4), (5, .ref v5), (6, .int (yw v6)), (7, .int (yw v7)), (8, .int (yw v8)), (9, .int (yw v9)), (11, .int (yw v11)), (12, .ref v12)]) (st2 := []) (by simp only [yl_lit, yL_lit, yw_add, yw_sub, yw_mul, yw_neg, yl_add, yl_sub, yl_mul, cj_and, cj_or, cj_xor, cj_shl, cj_shr, cj_ushr, cj_div, cj_i2c, cj_i2b, cj_dc, ck_and, ck_or, ck_xor, ck_shl, ck_shr, ck_ushr, ck_i2l, ck_l2i, ck_cmp]) rfl ?_
          exact xZ.sub (xsc (.tail _ (.tail _ (.head _))) (xsc (.tail _ (.tail _ (.tail _ (.head _)))) (xsc (.tail _ (.tail _ (.tail _ (.tail _ (.head _))))) (xsc (.tail _ (.tail _ (.tail _ (.tail _ (.tail _ (.head _)))))) (xsc (.tail _ (.tail _ (.tail _ (.tail _ (.tail _ (.tail _ (.head _))))))) (xsc (.tail _ (.tail _ (.tail _ (.tail _ (.tail _ (.tail _ (.tail _ (.head _)))))))) (xsc (.tail _ (.tail _ (.tail _ (.tail _ (.tail _ (.tail _ (.tail _ (.tail _ (.head _))))))))) (xsc (.tail _ (.tail _ (.tail _ (.tail _ (.tail _ (.tail _ (.tail _ (.tail _ (.tail _ (.head _)))))))))) (xsc (.tail _ (.tail _ (.tail _ (.tail _ (.tail _ (.tail _ (.tail _ (.tail _ (.tail _ (.tail _ (.head _))))))))))) (xsc (.tail _ (.tail _ (.tail _ (.tail _ (.tail _ (.tail _ (.tail _ (.tail _ (.tail _ (.tail _ (.tail _ (.head _)))))))))))) (xsc (.tail _ (.head _)) (xsc (.tail _ (.tail _ (.tail _ (.tail _ (.tail _ (.tail _ (.tail _ (.tail _ (.tail _ (.tail _ (.tail _ (.tail _ (.head _))))))))))))) (xsc (.tail _ (.tail _ (.tail _ (.tail _ (.tail _ (.tail _ (.tail _ (.tail _ (.tail _ (.tail _ (.tail _ (.tail _ (.tail _ (.head _)))))))))))))) (xsc (.head _) xsn)))))))))))))) (show ([13, 10, 0, 1, 2, 3, 4, 5, 6, 7, 8, 9, 11, 12] : List Nat).Nodup from by decide) (hK194 v0 v1 v2 v3 v4 v5 v6 v7 v8 v9 (s0 + s1) v11 v12 (v13 + 1) M)
        · skip
          refine xZ.adv (me := xm220) hP_220 1 (pc' := 275) (lv' := [(10, .int (yw (s0 + s1))), (0, .ref v0), (1, .ref v1), (2, .int (yw v2)), (3, .int (yw v3)), (4, .ref v4), (5, .ref v5), (6, .int (yw v6)), (7, .int (yw v7)), (8, .int (yw v8)), (9, .int (yw v9)), (11, .int (yw v11)), (12, .ref v12), (13, .int (yw v13))]) (st' := [.int (0 : Int32)]) rfl ?_
          refine xZ.eqs (lv2 := [(10, .int (yw (s0 + s1))), (0, .ref v0), (1, .ref v1), (2, .int (yw v2)), (3, .int (yw v3)), (4, .ref v4), (5, .ref v5), (6, .int (yw v6)), (7, .int (yw v7)), (8, .int (yw v8)), (9, .int (yw v9)), (11, .int (yw v11)), (12, .ref v12), (13, .int (yw v13))]) (st2 := [.int (yw 0)]) rfl (by simp only [yl_lit, yL_lit, yw_add, yw_sub, yw_mul, yw_neg, yl_add, yl_sub, yl_mul, cj_and, cj_or, cj_xor, cj_shl, cj_shr, cj_ushr, cj_div, cj_i2c, cj_i2b, cj_dc, ck_and, ck_or, ck_xor, ck_shl, ck_shr, ck_ushr, ck_i2l, ck_l2i, ck_cmp]) ?_
          exact xZ.jrete (me := xm220) hP_220 rfl rfl rfl
    · skip
      refine xZ.adv (me := xm220) hP_220 2 (pc' := 194) (lv' := [(13, .int ((yw v13) + (1 : Int32))), (10, .int (yw (s0 + s1))), (0, .ref v0), (1, .ref v1), (2, .int (yw v2)), (3, .int (yw v3)), (4, .ref v4), (5, .ref v5), (6, .int (yw v6)), (7, .int (yw v7)), (8, .int (yw v8)), (9, .int (yw v9)), (11, .int (yw v11)), (12, .ref v12)]) (st' := []) rfl ?_
      refine xZ.eqs (lv2 := [(13, .int (yw (v13 + 1))), (10, .int (yw (s0 + s1))), (0, .ref v0), (1, .ref v1), (2, .int (yw v2)), (3, .int (yw v3)), (4, .ref v4), (5, .ref v5), (6, .int (yw v6)), (7, .int (yw v7)), (8, .int (yw v8)), (9, .int (yw v9)), (11, .int (yw v11)), (12, .ref v12)]) (st2 := []) (by simp only [yl_lit, yL_lit, yw_add, yw_sub, yw_mul, yw_neg, yl_add, yl_sub, yl_mul, cj_and, cj_or, cj_xor, cj_shl, cj_shr, cj_ushr, cj_div, cj_i2c, cj_i2b, cj_dc, ck_and, ck_or, ck_xor, ck_shl, ck_shr, ck_ushr, ck_i2l, ck_l2i, ck_cmp]) rfl ?_
      exact xZ.sub (xsc (.tail _ (.tail _ (.head _))) (xsc (.tail _ (.tail _ (.tail _ (.head _)))) (xsc (.tail _ (.tail _ (.tail _ (.tail _ (.head _))))) (xsc (.tail _ (.tail _ (.tail _ (.tail _ (.tail _ (.head _)))))) (xsc (.tail _ (.tail _ (.tail _ (.tail _ (.tail _ (.tail _ (.head _))))))) (xsc (.tail _ (.tail _ (.tail _ (.tail _ (.tail _ (.tail _ (.tail _ (.head _)))))))) (xsc (.tail _ (.tail _ (.tail _ (.tail _ (.tail _ (.tail _ (.tail _ (.tail _ (.head _))))))))) (xsc (.tail _ (.tail _ (.tail _ (.tail _ (.tail _ (.tail _ (.tail _ (.tail _ (.tail _ (.head _)))))))))) (xsc (.tail _ (.tail _ (.tail _ (.tail _ (.tail _ (.tail _ (.tail _ (.tail _ (.tail _ (.tail _ (.head _))))))))))) (xsc (.tail _ (.tail _ (.tail _ (.tail _ (.tail _ (.tail _ (.tail _ (.tail _ (.tail _ (.tail _ (.tail _ (.head _)))))))))))) (xsc (.tail _ (.head _)) (xsc (.tail _ (.tail _ (.tail _ (.tail _ (.tail _ (.tail _ (.tail _ (.tail _ (.tail _ (.tail _ (.tail _ (.tail _ (.head _))))))))))))) (xsc (.tail _ (.tail _ (.tail _ (.tail _ (.tail _ (.tail _ (.tail _ (.tail _ (.tail _ (.tail _ (.tail _ (.tail _ (.tail _ (.head _)))))))))))))) (xsc (.head _) xsn)))))))))))))) (show ([13, 10, 0, 1, 2, 3, 4, 5, 6, 7, 8, 9, 11, 12] : List Nat).Nodup from by decide) (hK194 v0 v1 v2 v3 v4 v5 v6 v7 v8 v9 (s0 + s1) v11 v12 (v13 + 1) M)
  · skip
    refine xZ.adv (me := xm220) hP_220 2 (pc' := 194) (lv' := [(13, .int ((yw v13) + (1 : Int32))), (10, .int (yw (s0 + s1))), (0, .ref v0), (1, .ref v1), (2, .int (yw v2)), (3, .int (yw v3)), (4, .ref v4), (5, .ref v5), (6, .int (yw v6)), (7, .int (yw v7)), (8, .int (yw v8)), (9, .int (yw v9)), (11, .int (yw v11)), (12, .ref v12)]) (st' := []) rfl ?_
    refine xZ.eqs (lv2 := [(13, .int (yw (v13 + 1))), (10, .int (yw (s0 + s1))), (0, .ref v0), (1, .ref v1), (2, .int (yw v2)), (3, .int (yw v3)), (4, .ref v4), (5, .ref v5), (6, .int (yw v6)), (7, .int (yw v7)), (8, .int (yw v8)), (9, .int (yw v9)), (11, .int (yw v11)), (12, .ref v12)]) (st2 := []) (by simp only [yl_lit, yL_lit, yw_add, yw_sub, yw_mul, yw_neg, yl_add, yl_sub, yl_mul, cj_and, cj_or, cj_xor, cj_shl, cj_shr, cj_ushr, cj_div, cj_i2c, cj_i2b, cj_dc, ck_and, ck_or, ck_xor, ck_shl, ck_shr, ck_ushr, ck_i2l, ck_l2i, ck_cmp]) rfl ?_
    exact xZ.sub (xsc (.tail _ (.tail _ (.head _))) (xsc (.tail _ (.tail _ (.tail _ (.head _)))) (xsc (.tail _ (.tail _ (.tail _ (.tail _ (.head _))))) (xsc (.tail _ (.tail _ (.tail _ (.tail _ (.tail _ (.head _)))))) (xsc (.tail _ (.tail _ (.tail _ (.tail _ (.tail _ (.tail _ (.head _))))))) (xsc (.tail _ (.tail _ (.tail _ (.tail _ (.tail _ (.tail _ (.tail _ (.head _)))))))) (xsc (.tail _ (.tail _ (.tail _ (.tail _ (.tail _ (.tail _ (.tail _ (.tail _ (.head _))))))))) (xsc (.tail _ (.tail _ (.tail _ (.tail _ (.tail _ (.tail _ (.tail _ (.tail _ (.tail _ (.head _)))))))))) (xsc (.tail _ (.tail _ (.tail _ (.tail _ (.tail _ (.tail _ (.tail _ (.tail _ (.tail _ (.tail _ (.head _))))))))))) (xsc (.tail _ (.tail _ (.tail _ (.tail _ (.tail _ (.tail _ (.tail _ (.tail _ (.tail _ (.tail _ (.tail _ (.head _)))))))))))) (xsc (.tail _ (.head _)) (xsc (.tail _ (.tail _ (.tail _ (.tail _ (.tail _ (.tail _ (.tail _ (.tail _ (.tail _ (.tail _ (.tail _ (.tail _ (.head _))))))))))))) (xsc (.tail _ (.tail _ (.tail _ (.tail _ (.tail _ (.tail _ (.tail _ (.tail _ (.tail _ (.tail _ (.tail _ (.tail _ (.tail _ (.head _)))))))))))))) (xsc (.head _) xsn)))))))))))))) (show ([13, 10, 0, 1, 2, 3, 4, 5, 6, 7, 8, 9, 11, 12] : List Nat).Nodup from by decide) (hK194 v0 v1 v2 v3 v4 v5 v6 v7 v8 v9 (s0 + s1) v11 v12 (v13 + 1) M)
def f_Law_areRung_194 (O : Nat → Option va_E) (f : Nat) (K151 : Nat → Nat → Int → Int → Nat → Nat → Int → Int → Int → Int → Int → Int → xM → Option (Int × xM)) : Nat → Nat → Nat → Int → Int → Nat → Nat → Int → Int → Int → Int → Int → Int → Nat → Int → xM → Option (Int × xM)
  | 0, _, _, _, _, _, _, _, _, _, _, _, _, _, _, _ => none
  | n + 1, v0, v1, v2, v3, v4, v5, v6, v7, v8, v9, v10, v11, v12, v13, M =>
    (gJ O M v12 13 4).bind fun x1 =>
    if yw x1 ≤ yw v13 then (
      K151 v0 v1 v2 v3 v4 v5 v6 v7 v8 v9 v10 (v11 + 1) M
    ) else
    (gR O M v12 13 0).bind fun x2 =>
    (aJ O M x2 v13).bind fun x3 =>
    (aJ O M v4 v11).bind fun x4 =>
    if yw x3 = yw x4 then (
      f_Law_areRung_227 O f (f_Law_areRung_194 O f K151 n) v0 v1 v2 v3 v4 v5 v6 v7 v8 v9 v11 v12 v13 v10 1 M
    ) else
    f_Law_areRung_227 O f (f_Law_areRung_194 O f K151 n) v0 v1 v2 v3 v4 v5 v6 v7 v8 v9 v11 v12 v13 v10 0 M
set_option maxRecDepth 20000 in
theorem k_f_Law_areRung_194 (O : Nat → Option va_E) (f d : Nat) (K151 : Nat → Nat → Int → Int → Nat → Nat → Int → Int → Int → Int → Int → Int → xM → Option (Int × xM)) (hK151 : ∀ (v0 : Nat) (v1 : Nat) (v2 : Int) (v3 : Int) (v4 : Nat) (v5 : Nat) (v6 : Int) (v7 : Int) (v8 : Int) (v9 : Int) (v10 : Int) (v11 : Int) M, xZ oJ O (d + 9) 220 151 [(0, .ref v0), (1, .ref v1), (2, .int (yw v2)), (3, .int (yw v3)), (4, .ref v4), (5, .ref v5), (6, .int (yw v6)), (7, .int (yw v7)), (8, .int (yw v8)), (9, .int (yw v9)), (10, .int (yw v10)), (11, .int (yw v11))] [] M (K151 v0 v1 v2 v3 v4 v5 v6 v7 v8 v9 v10 v11 M)) : ∀ (n : Nat) (v0 : Nat) (v1 : Nat) (v2 : Int) (v3 : Int) (v4 : Nat) (v5 : Nat) (v6 : Int) (v7 : Int) (v8 : Int) (v9 : Int) (v10 : Int) (v11 : Int) (v12 : Nat) (v13 : Int) (M : xM), xZ oJ O (d + 9) 220 194 [(0, .ref v0), (1, .ref v1), (2, .int (yw v2)), (3, .int (yw v3)), (4, .ref v4), (5, .ref v5), (6, .int (yw v6)), (7, .int (yw v7)), (8, .int (yw v8)), (9, .int (yw v9)), (10, .int (yw v10)), (11, .int (yw v11)), (12, .ref v12), (13, .int (yw v13))] [] M (f_Law_areRung_194 O f K151 n v0 v1 v2 v3 v4 v5 v6 v7 v8 v9 v10 v11 v12 v13 M) := by
  intro n
  induction n with
  | zero =>
    intro v0 v1 v2 v3 v4 v5 v6 v7 v8 v9 v10 v11 v12 v13 M
    exact xZ.no
  | succ n ih =>
    intro v0 v1 v2 v3 v4 v5 v6 v7 v8 v9 v10 v11 v12 v13 M
    unfold f_Law_areRung_194
    refine xZ.adv (me := xm220) hP_220 2 (pc' := 198) (lv' := [(0, .ref v0), (1, .ref v1), (2, .int (yw v2)), (3, .int (yw v3)), (4, .ref v4), (5, .ref v5), (6, .int (yw v6)), (7, .int (yw v7)), (8, .int (yw v8)), (9, .int (yw v9)), (10, .int (yw v10)), (11, .int (yw v11)), (12, .ref v12), (13, .int (yw v13))]) (st' := [.ref v12, .int (yw v13)]) rfl ?_
    refine xZ.k_gJ (me := xm220) hP_220 rfl (fun x1 => ?_)
    refine xZ.jc_ge (me := xm220) hP_220 rfl (fun h1 => ?_) (fun h1 => ?_)
    · skip
      refine xZ.adv (me := xm220) hP_220 2 (pc' := 151) (lv' := [(11, .int ((yw v11) + (1 : Int32))), (0, .ref v0), (1, .ref v1), (2, .int (yw v2)), (3, .int (yw v3)), (4, .ref v4), (5, .ref v5), (6, .int (yw v6)), (7, .int (yw v7)), (8, .int (yw v8)), (9, .int (yw v9)), (10, .int (yw v10)), (12, .ref v12), (13, .int (yw v13))]) (st' := []) rfl ?_
      refine xZ.eqs (lv2 := [(11, .int (yw (v11 + 1))), (0, .ref v0), (1, .ref v1), (2, .int (yw v2)), (3, .int (yw v3)), (4, .ref v4), (5, .ref v5), (6, .int (yw v6)), (7, .int (yw v7)), (8, .int (yw v8)), (9, .int (yw v9)), (10, .int (yw v10)), (12, .ref v12), (13, .int (yw v13))]) (st2 := []) (by simp only [yl_lit, yL_lit, yw_add, yw_sub, yw_mul, yw_neg, yl_add, yl_sub, yl_mul, cj_and, cj_or, cj_xor, cj_shl, cj_shr, cj_ushr, cj_div, cj_i2c, cj_i2b, cj_dc, ck_and, ck_or, ck_xor, ck_shl, ck_shr, ck_ushr, ck_i2l, ck_l2i, ck_cmp]) rfl ?_
      exact xZ.sub (xsc (.tail _ (.head _)) (xsc (.tail _ (.tail _ (.head _))) (xsc (.tail _ (.tail _ (.tail _ (.head _)))) (xsc (.tail _ (.tail _ (.tail _ (.tail _ (.head _))))) (xsc (.tail _ (.tail _ (.tail _ (.tail _ (.tail _ (.head _)))))) (xsc (.tail _ (.tail _ (.tail _ (.tail _ (.tail _ (.tail _ (.head _))))))) (xsc (.tail _ (.tail _ (.tail _ (.tail _ (.tail _ (.tail _ (.tail _ (.head _)))))))) (xsc (.tail _ (.tail _ (.tail _ (.tail _ (.tail _ (.tail _ (.tail _ (.tail _ (.head _))))))))) (xsc (.tail _ (.tail _ (.tail _ (.tail _ (.tail _ (.tail _ (.tail _ (.tail _ (.tail _ (.head _)))))))))) (xsc (.tail _ (.tail _ (.tail _ (.tail _ (.tail _ (.tail _ (.tail _ (.tail _ (.tail _ (.tail _ (.head _))))))))))) (xsc (.tail _ (.tail _ (.tail _ (.tail _ (.tail _ (.tail _ (.tail _ (.tail _ (.tail _ (.tail _ (.tail _ (.head _)))))))))))) (xsc (.head _) xsn)))))))))))) (show ([11, 0, 1, 2, 3, 4, 5, 6, 7, 8, 9, 10, 12, 13] : List Nat).Nodup from by decide) (hK151 v0 v1 v2 v3 v4 v5 v6 v7 v8 v9 v10 (v11 + 1) M)
    · skip
      refine xZ.adv (me := xm220) hP_220 2 (pc' := 208) (lv' := [(0, .ref v0), (1, .ref v1), (2, .int (yw v2)), (3, .int (yw v3)), (4, .ref v4), (5, .ref v5), (6, .int (yw v6)), (7, .int (yw v7)), (8, .int (yw v8)), (9, .int (yw v9)), (10, .int (yw v10)), (11, .int (yw v11)), (12, .ref v12), (13, .int (yw v13))]) (st' := [.ref v12, .int (yw v10)]) rfl ?_
      refine xZ.k_gR (me := xm220) hP_220 rfl (fun x2 => ?_)
      refine xZ.adv (me := xm220) hP_220 1 (pc' := 213) (lv' := [(0, .ref v0), (1, .ref v1), (2, .int (yw v2)), (3, .int (yw v3)), (4, .ref v4), (5, .ref v5), (6, .int (yw v6)), (7, .int (yw v7)), (8, .int (yw v8)), (9, .int (yw v9)), (10, .int (yw v10)), (11, .int (yw v11)), (12, .ref v12), (13, .int (yw v13))]) (st' := [.int (yw v13), .ref x2, .int (yw v10)]) rfl ?_
      refine xZ.k_aJ (me := xm220) hP_220 rfl (fun x3 => ?_)
      refine xZ.adv (me := xm220) hP_220 2 (pc' := 218) (lv' := [(0, .ref v0), (1, .ref v1), (2, .int (yw v2)), (3, .int (yw v3)), (4, .ref v4), (5, .ref v5), (6, .int (yw v6)), (7, .int (yw v7)), (8, .int (yw v8)), (9, .int (yw v9)), (10, .int (yw v10)), (11, .int (yw v11)), (12, .ref v12), (13, .int (yw v13))]) (st' := [.int (yw v11), .ref v4, .int (yw x3), .int (yw v10)]) rfl ?_
      refine xZ.k_aJ (me := xm220) hP_220 rfl (fun x4 => ?_)
      refine xZ.jc_ne (me := xm220) hP_220 rfl (fun h2 => ?_) (fun h2 => ?_)
      · skip
        refine xZ.adv (me := xm220) hP_220 2 (pc' := 227) (lv' := [(0, .ref v0), (1, .ref v1), (2, .int (yw v2)), (3, .int (yw v3)), (4, .ref v4), (5, .ref v5), (6, .int (yw v6)), (7, .int (yw v7)), (8, .int (yw v8)), (9, .int (yw v9)), (10, .int (yw v10)), (11, .int (yw v11)), (12, .ref v12), (13, .int (yw v13))]) (st' := [.int (1 : Int32), .int (yw v10)]) rfl ?_
        refine xZ.eqs (lv2 := [(0, .ref v0), (1, .ref v1), (2, .int (yw v2)), (3, .int (yw v3)), (4, .ref v4), (5, .ref v5), (6, .int (yw v6)), (7, .int (yw v7)), (8, .int (yw v8)), (9, .int (yw v9)), (10, .int (yw v10)), (11, .int (yw v11)), (12, .ref v12), (13, .int (yw v13))]) (st2 := [.int (yw 1), .int (yw v10)]) rfl (by simp only [yl_lit, yL_lit, yw_add, yw_sub, yw_mul, yw_neg, yl_add, yl_sub, yl_mul, cj_and, cj_or, cj_xor, cj_shl, cj_shr, cj_ushr, cj_div, cj_i2c, cj_i2b, cj_dc, ck_and, ck_or, ck_xor, ck_shl, ck_shr, ck_ushr, ck_i2l, ck_l2i, ck_cmp]) ?_
        exact xZ.sub (xsc (.head _) (xsc (.tail _ (.head _)) (xsc (.tail _ (.tail _ (.head _))) (xsc (.tail _ (.tail _ (.tail _ (.head _)))) (xsc (.tail _ (.tail _ (.tail _ (.tail _ (.head _))))) (xsc (.tail _ (.tail _ (.tail _ (.tail _ (.tail _ (.head _)))))) (xsc (.tail _ (.tail _ (.tail _ (.tail _ (.tail _ (.tail _ (.head _))))))) (xsc (.tail _ (.tail _ (.tail _ (.tail _ (.tail _ (.tail _ (.tail _ (.head _)))))))) (xsc (.tail _ (.tail _ (.tail _ (.tail _ (.tail _ (.tail _ (.tail _ (.tail _ (.head _))))))))) (xsc (.tail _ (.tail _ (.tail _ (.tail _ (.tail _ (.tail _ (.tail _ (.tail _ (.tail _ (.head _)))))))))) (xsc (.tail _ (.tail _ (.tail _ (.tail _ (.tail _ (.tail _ (.tail _ (.tail _ (.tail _ (.tail _ (.tail _ (.head _)))))))))))) (xsc (.tail _ (.tail _ (.tail _ (.tail _ (.tail _ (.tail _ (.tail _ (.tail _ (.tail _ (.tail _ (.tail _ (.tail _ (.head _))))))))))))) (xsc (.tail _ (.tail _ (.tail _ (.tail _ (.tail _ (.tail _ (.tail _ (.tail _ (.tail _ (.tail _ (.tail _ (.tail _ (.tail _ (.head _)))))))))))))) xsn))))))))))))) (show ([0, 1, 2, 3, 4, 5, 6, 7, 8, 9, 10, 11, 12, 13] : List Nat).Nodup from by decide) (k_f_Law_areRung_227 O f d (f_Law_areRung_194 O f K151 n) ih v0 v1 v2 v3 v4 v5 v6 v7 v8 v9 v11 v12 v13 v10 1 M)
      · skip
        refine xZ.adv (me := xm220) hP_220 1 (pc' := 227) (lv' := [(0, .ref v0), (1, .ref v1), (2, .int (yw v2)), (3, .int (yw v3)), (4, .ref v4), (5, .ref v5), (6, .int (yw v6)), (7, .int (yw v7)), (8, .int (yw v8)), (9, .int (yw v9)), (10, .int (yw v10)), (11, .int (yw v11)), (12, .ref v12), (13, .int (yw v13))]) (st' := [.int (0 : Int32), .int (yw v10)]) rfl ?_
        refine xZ.eqs (lv2 := [(0, .ref v0), (1, .ref v1), (2, .int (yw v2)), (3, .int (yw v3)), (4, .ref v4), (5, .ref v5), (6, .int (yw v6)), (7, .int (yw v7)), (8, .int (yw v8)), (9, .int (yw v9)), (10, .int (yw v10)), (11, .int (yw v11)), (12, .ref v12), (13, .int (yw v13))]) (st2 := [.int (yw 0), .int (yw v10)]) rfl (by simp only [yl_lit, yL_lit, yw_add, yw_sub, yw_mul, yw_neg, yl_add, yl_sub, yl_mul, cj_and, cj_or, cj_xor, cj_shl, cj_shr, cj_ushr, cj_div, cj_i2c, cj_i2b, cj_dc, ck_and, ck_or, ck_xor, ck_shl, ck_shr, ck_ushr, ck_i2l, ck_l2i, ck_cmp]) ?_
        exact xZ.sub (xsc (.head _) (xsc (.tail _ (.head _)) (xsc (.tail _ (.tail _ (.head _))) (xsc (.tail _ (.tail _ (.tail _ (.head _)))) (xsc (.tail _ (.tail _ (.tail _ (.tail _ (.head _))))) (xsc (.tail _ (.tail _ (.tail _ (.tail _ (.tail _ (.head _)))))) (xsc (.tail _ (.tail _ (.tail _ (.tail _ (.tail _ (.tail _ (.head _))))))) (xsc (.tail _ (.tail _ (.tail _ (.tail _ (.tail _ (.tail _ (.tail _ (.head _)))))))) (xsc (.tail _ (.tail _ (.tail _ (.tail _ (.tail _ (.tail _ (.tail _ (.tail _ (.head _))))))))) (xsc (.tail _ (.tail _ (.tail _ (.tail _ (.tail _ (.tail _ (.tail _ (.tail _ (.tail _ (.head _)))))))))) (xsc (.tail _ (.tail _ (.tail _ (.tail _ (.tail _ (.tail _ (.tail _ (.tail _ (.tail _ (.tail _ (.tail _ (.head _)))))))))))) (xsc (.tail _ (.tail _ (.tail _ (.tail _ (.tail _ (.tail _ (.tail _ (.tail _ (.tail _ (.tail _ (.tail _ (.tail _ (.head _))))))))))))) (xsc (.tail _ (.tail _ (.tail _ (.tail _ (.tail _ (.tail _ (.tail _ (.tail _ (.tail _ (.tail _ (.tail _ (.tail _ (.tail _ (.head _)))))))))))))) xsn))))))))))))) (show ([0, 1, 2, 3, 4, 5, 6, 7, 8, 9, 10, 11, 12, 13] : List Nat).Nodup from by decide) (k_f_Law_areRung_227 O f d (f_Law_areRung_194 O f K151 n) ih v0 v1 v2 v3 v4 v5 v6 v7 v8 v9 v11 v12 v13 v10 0 M)
def f_Law_areRung_357 (O : Nat → Option va_E) (f : Nat) (K114 : Nat → Nat → Int → Int → Nat → Nat → Int → xM → Option (Int × xM)) : Nat → Nat → Nat → Int → Int → Nat → Nat → Int → Int → Int → Int → Int → xM → Option (Int × xM)
  | 0, _, _, _, _, _, _, _, _, _, _, _, _ => none
  | n + 1, v0, v1, v2, v3, v4, v5, v6, v7, v8, v13, v14, M =>
    (isO O M v0 12).bind fun _ =>
    xcl (f_Calendarhall_rings O f v0 M) fun x1 M1 =>
    if yw x1 ≤ yw v14 then (
      K114 v0 v1 v2 v3 v4 v5 (v6 + 1) M1
    ) else
    (isO O M1 v0 12).bind fun _ =>
    xcl (f_Calendarhall_ringAt O f v0 v14 2 M1) fun x2 M2 =>
    (isO O M2 v0 12).bind fun _ =>
    xcl (f_Calendarhall_ringAt O f v0 v14 0 M2) fun x3 M3 =>
    if yw x2 < yw v13 then (
      some (0, M3)
    ) else
    if yw x2 ≤ yw v7 then (
      some (0, M3)
    ) else
    if yw (v7 + v8) < yw x2 then (
      some (0, M3)
    ) else
    (aJ O M3 v4 x3).bind fun x4 =>
    (isO O M3 v0 12).bind fun _ =>
    xcl (f_Calendarhall_ringAt O f v0 v14 1 M3) fun x5 M4 =>
    (isO O M4 v0 12).bind fun _ =>
    xcl (f_Calendarhall_begin O f v0 x4 x5 M4) fun x6 M5 =>
    (aJ O M5 v5 x3).bind fun x7 =>
    if yw (x6 - x7) = yw x2 then (
      f_Law_areRung_357 O f K114 n v0 v1 v2 v3 v4 v5 v6 v7 v8 x2 (v14 + 1) M5
    ) else
    some (0, M5)
set_option maxRecDepth 20000 in
theorem k_f_Law_areRung_357 (O : Nat → Option va_E) (f d : Nat) (K114 : Nat → Nat → Int → Int → Nat → Nat → Int → xM → Option (Int × xM)) (hK114 : ∀ (v0 : Nat) (v1 : Nat) (v2 : Int) (v3 : Int) (v4 : Nat) (v5 : Nat) (v6 : Int) M, xZ oJ O (d + 9) 220 114 [(0, .ref v0), (1, .ref v1), (2, .int (yw v2)), (3, .int (yw v3)), (4, .ref v4), (5, .ref v5), (6, .int (yw v6))] [] M (K114 v0 v1 v2 v3 v4 v5 v6 M)) : ∀ (n : Nat) (v0 : Nat) (v1 : Nat) (v2 : Int) (v3 : Int) (v4 : Nat) (v5 : Nat) (v6 : Int) (v7 : Int) (v8 : Int) (v13 : Int) (v14 : Int) (M : xM), xZ oJ O (d + 9) 220 357 [(0, .ref v0), (1, .ref v1), (2, .int (yw v2)), (3, .int (yw v3)), (4, .ref v4), (5, .ref v5), (6, .int (yw v6)), (7, .int (yw v7)), (8, .int (yw v8)), (13, .int (yw v13)), (14, .int (yw v14))] [] M (f_Law_areRung_357 O f K114 n v0 v1 v2 v3 v4 v5 v6 v7 v8 v13 v14 M) := by
  intro n
  induction n with
  | zero =>
    intro v0 v1 v2 v3 v4 v5 v6 v7 v8 v13 v14 M
    exact xZ.no
  | succ n ih =>
    intro v0 v1 v2 v3 v4 v5 v6 v7 v8 v13 v14 M
    unfold f_Law_areRung_357
    refine xZ.adv (me := xm220) hP_220 2 (pc' := 360) (lv' := [(0, .ref v0), (1, .ref v1), (2, .int (yw v2)), (3, .int (yw v3)), (4, .ref v4), (5, .ref v5), (6, .int (yw v6)), (7, .int (yw v7)), (8, .int (yw v8)), (13, .int (yw v13)), (14, .int (yw v14))]) (st' := [.ref v0, .int (yw v14)]) rfl ?_
    refine xZ.callv (κ := oJ) (av := []) (rest := [.int (yw v14)]) (st' := fun x1 => [.int (yw x1), .int (yw v14)]) (k0 := v0) (me := xm220) hP_220 rfl (Or.inl rfl) ⟨rfl, by decide⟩ rfl rfl (Nat.le_of_ble_eq_true rfl) (by decide) hP_228 (Nat.le_of_ble_eq_true rfl) (fun _ => rfl) (k_f_Calendarhall_rings O f (d + 8) v0 M) (fun x1 M1 => ?_)
    refine xZ.jc_ge (me := xm220) hP_220 rfl (fun h1 => ?_) (fun h1 => ?_)
    · skip
      refine xZ.adv (me := xm220) hP_220 2 (pc' := 114) (lv' := [(6, .int ((yw v6) + (1 : Int32))), (0, .ref v0), (1, .ref v1), (2, .int (yw v2)), (3, .int (yw v3)), (4, .ref v4), (5, .ref v5), (7, .int (yw v7)), (8, .int (yw v8)), (13, .int (yw v13)), (14, .int (yw v14))]) (st' := []) rfl ?_
      refine xZ.eqs (lv2 := [(6, .int (yw (v6 + 1))), (0, .ref v0), (1, .ref v1), (2, .int (yw v2)), (3, .int (yw v3)), (4, .ref v4), (5, .ref v5), (7, .int (yw v7)), (8, .int (yw v8)), (13, .int (yw v13)), (14, .int (yw v14))]) (st2 := []) (by simp only [yl_lit, yL_lit, yw_add, yw_sub, yw_mul, yw_neg, yl_add, yl_sub, yl_mul, cj_and, cj_or, cj_xor, cj_shl, cj_shr, cj_ushr, cj_div, cj_i2c, cj_i2b, cj_dc, ck_and, ck_or, ck_xor, ck_shl, ck_shr, ck_ushr, ck_i2l, ck_l2i, ck_cmp]) rfl ?_
      exact xZ.sub (xsc (.tail _ (.head _)) (xsc (.tail _ (.tail _ (.head _))) (xsc (.tail _ (.tail _ (.tail _ (.head _)))) (xsc (.tail _ (.tail _ (.tail _ (.tail _ (.head _))))) (xsc (.tail _ (.tail _ (.tail _ (.tail _ (.tail _ (.head _)))))) (xsc (.tail _ (.tail _ (.tail _ (.tail _ (.tail _ (.tail _ (.head _))))))) (xsc (.head _) xsn))))))) (show ([6, 0, 1, 2, 3, 4, 5, 7, 8, 13, 14] : List Nat).Nodup from by decide) (hK114 v0 v1 v2 v3 v4 v5 (v6 + 1) M1)
    · skip
      refine xZ.adv (me := xm220) hP_220 3 (pc' := 370) (lv' := [(0, .ref v0), (1, .ref v1), (2, .int (yw v2)), (3, .int (yw v3)), (4, .ref v4), (5, .ref v5), (6, .int (yw v6)), (7, .int (yw v7)), (8, .int (yw v8)), (13, .int (yw v13)), (14, .int (yw v14))]) (st' := [.int (2 : Int32), .int (yw v14), .ref v0]) rfl ?_
      refine xZ.eqs (lv2 := [(0, .ref v0), (1, .ref v1), (2, .int (yw v2)), (3, .int (yw v3)), (4, .ref v4), (5, .ref v5), (6, .int (yw v6)), (7, .int (yw v7)), (8, .int (yw v8)), (13, .int (yw v13)), (14, .int (yw v14))]) (st2 := [.int (yw 2), .int (yw v14), .ref v0]) rfl (by simp only [yl_lit, yL_lit, yw_add, yw_sub, yw_mul, yw_neg, yl_add, yl_sub, yl_mul, cj_and, cj_or, cj_xor, cj_shl, cj_shr, cj_ushr, cj_div, cj_i2c, cj_i2b, cj_dc, ck_and, ck_or, ck_xor, ck_shl, ck_shr, ck_ushr, ck_i2l, ck_l2i, ck_cmp]) ?_
      refine xZ.callv (κ := oJ) (av := [.int (yw v14), .int (yw 2)]) (rest := []) (st' := fun x2 => [.int (yw x2)]) (k0 := v0) (me := xm220) hP_220 rfl (Or.inl rfl) ⟨rfl, by decide⟩ rfl rfl (Nat.le_of_ble_eq_true rfl) (by decide) hP_233 (Nat.le_of_ble_eq_true rfl) (fun _ => rfl) (k_f_Calendarhall_ringAt O f (d + 7) v0 v14 2 M1) (fun x2 M2 => ?_)
      refine xZ.adv (me := xm220) hP_220 4 (pc' := 379) (lv' := [(15, .int (yw x2)), (0, .ref v0), (1, .ref v1), (2, .int (yw v2)), (3, .int (yw v3)), (4, .ref v4), (5, .ref v5), (6, .int (yw v6)), (7, .int (yw v7)), (8, .int (yw v8)), (13, .int (yw v13)), (14, .int (yw v14))]) (st' := [.int (0 : Int32), .int (yw v14), .ref v0]) rfl ?_
      refine xZ.eqs (lv2 := [(15, .int (yw x2)), (0, .ref v0), (1, .ref v1), (2, .int (yw v2)), (3, .int (yw v3)), (4, .ref v4), (5, .ref v5), (6, .int (yw v6)), (7, .int (yw v7)), (8, .int (yw v8)), (13, .int (yw v13)), (14, .int (yw v14))]) (st2 := [.int (yw 0), .int (yw v14), .ref v0]) rfl (by simp only [yl_lit, yL_lit, yw_add, yw_sub, yw_mul, yw_neg, yl_add, yl_sub, yl_mul, cj_and, cj_or, cj_xor, cj_shl, cj_shr, cj_ushr, cj_div, cj_i2c, cj_i2b, cj_dc, ck_and, ck_or, ck_xor, ck_shl, ck_shr, ck_ushr, ck_i2l, ck_l2i, ck_cmp]) ?_
      refine xZ.callv (κ := oJ) (av := [.int (yw v14), .int (yw 0)]) (rest := []) (st' := fun x3 => [.int (yw x3)]) (k0 := v0) (me := xm220) hP_220 rfl (Or.inl rfl) ⟨rfl, by decide⟩ rfl rfl (Nat.le_of_ble_eq_true rfl) (by decide) hP_233 (Nat.le_of_ble_eq_true rfl) (fun _ => rfl) (k_f_Calendarhall_ringAt O f (d + 7) v0 v14 0 M2) (fun x3 M3 => ?_)
      refine xZ.adv (me := xm220) hP_220 3 (pc' := 388) (lv' := [(16, .int (yw x3)), (15, .int (yw x2)), (0, .ref v0), (1, .ref v1), (2, .int (yw v2)), (3, .int (yw v3)), (4, .ref v4), (5, .ref v5), (6, .int (yw v6)), (7, .int (yw v7)), (8, .int (yw v8)), (13, .int (yw v13)), (14, .int (yw v14))]) (st' := [.int (yw v13), .int (yw x2)]) rfl ?_
      refine xZ.jc_lt (me := xm220) hP_220 rfl (fun h2 => ?_) (fun h2 => ?_)
      · skip
        refine xZ.adv (me := xm220) hP_220 1 (pc' := 436) (lv' := [(16, .int (yw x3)), (15, .int (yw x2)), (0, .ref v0), (1, .ref v1), (2, .int (yw v2)), (3, .int (yw v3)), (4, .ref v4), (5, .ref v5), (6, .int (yw v6)), (7, .int (yw v7)), (8, .int (yw v8)), (13, .int (yw v13)), (14, .int (yw v14))]) (st' := [.int (0 : Int32)]) rfl ?_
        refine xZ.eqs (lv2 := [(16, .int (yw x3)), (15, .int (yw x2)), (0, .ref v0), (1, .ref v1), (2, .int (yw v2)), (3, .int (yw v3)), (4, .ref v4), (5, .ref v5), (6, .int (yw v6)), (7, .int (yw v7)), (8, .int (yw v8)), (13, .int (yw v13)), (14, .int (yw v14))]) (st2 := [.int (yw 0)]) rfl (by simp only [yl_lit, yL_lit, yw_add, yw_sub, yw_mul, yw_neg, yl_add, yl_sub, yl_mul, cj_and, cj_or, cj_xor, cj_shl, cj_shr, cj_ushr, cj_div, cj_i2c, cj_i2b, cj_dc, ck_and, ck_or, ck_xor, ck_shl, ck_shr, ck_ushr, ck_i2l, ck_l2i, ck_cmp]) ?_
        exact xZ.jrete (me := xm220) hP_220 rfl rfl rfl
      · skip
        refine xZ.adv (me := xm220) hP_220 2 (pc' := 395) (lv' := [(16, .int (yw x3)), (15, .int (yw x2)), (0, .ref v0), (1, .ref v1), (2, .int (yw v2)), (3, .int (yw v3)), (4, .ref v4), (5, .ref v5), (6, .int (yw v6)), (7, .int (yw v7)), (8, .int (yw v8)), (13, .int (yw v13)), (14, .int (yw v14))]) (st' := [.int (yw v7), .int (yw x2)]) rfl ?_
        refine xZ.jc_le (me := xm220) hP_220 rfl (fun h3 => ?_) (fun h3 => ?_)
        · skip
          refine xZ.adv (me := xm220) hP_220 1 (pc' := 436) (lv' := [(16, .int (yw x3)), (15, .int (yw x2)), (0, .ref v0), (1, .ref v1), (2, .int (yw v2)), (3, .int (yw v3)), (4, .ref v4), (5, .ref v5), (6, .int (yw v6)), (7, .int (yw v7)), (8, .int (yw v8)), (13, .int (yw v13)), (14, .int (yw v14))]) (st' := [.int (0 : Int32)]) rfl ?_
          refine xZ.eqs (lv2 := [(16, .int (yw x3)), (15, .int (yw x2)), (0, .ref v0), (1, .ref v1), (2, .int (yw v2)), (3, .int (yw v3)), (4, .ref v4), (5, .ref v5), (6, .int (yw v6)), (7, .int (yw v7)), (8, .int (yw v8)), (13, .int (yw v13)), (14, .int (yw v14))]) (st2 := [.int (yw 0)]) rfl (by simp only [yl_lit, yL_lit, yw_add, yw_sub, yw_mul, yw_neg, yl_add, yl_sub, yl_mul, cj_and, cj_or, cj_xor, cj_shl, cj_shr, cj_ushr, cj_div, cj_i2c, cj_i2b, cj_dc, ck_and, ck_or, ck_xor, ck_shl, ck_shr, ck_ushr, ck_i2l, ck_l2i, ck_cmp]) ?_
          exact xZ.jrete (me := xm220) hP_220 rfl rfl rfl
        · skip
          refine xZ.adv (me := xm220) hP_220 4 (pc' := 405) (lv' := [(16, .int (yw x3)), (15, .int (yw x2)), (0, .ref v0), (1, .ref v1), (2, .int (yw v2)), (3, .int (yw v3)), (4, .ref v4), (5, .ref v5), (6, .int (yw v6)), (7, .int (yw v7)), (8, .int (yw v8)), (13, .int (yw v13)), (14, .int (yw v14))]) (st' := [.int ((yw v7) + (yw v8)), .int (yw x2)]) rfl ?_
          refine xZ.eqs (lv2 := [(16, .int (yw x3)), (15, .int (yw x2)), (0, .ref v0), (1, .ref v1), (2, .int (yw v2)), (3, .int (yw v3)), (4, .ref v4), (5, .ref v5), (6, .int (yw v6)), (7, .int (yw v7)), (8, .int (yw v8)), (13, .int (yw v13)), (14, .int (yw v14))]) (st2 := [.int (yw (v7 + v8)), .int (yw x2)]) rfl (by simp only [yl_lit, yL_lit, yw_add, yw_sub, yw_mul, yw_neg, yl_add, yl_sub, yl_mul, cj_and, cj_or, cj_xor, cj_shl, cj_shr, cj_ushr, cj_div, cj_i2c, cj_i2b, cj_dc, ck_and, ck_or, ck_xor, ck_shl, ck_shr, ck_ushr, ck_i2l, ck_l2i, ck_cmp]) ?_
          refine xZ.jc_gt (me := xm220) hP_220 rfl (fun h4 => ?_) (fun h4 => ?_)
          · skip
            refine xZ.adv (me := xm220) hP_220 1 (pc' := 436) (lv' := [(16, .int (yw x3)), (15, .int (yw x2)), (0, .ref v0), (1, .ref v1), (2, .int (yw v2)), (3, .int (yw v3)), (4, .ref v4), (5, .ref v5), (6, .int (yw v6)), (7, .int (yw v7)), (8, .int (yw v8)), (13, .int (yw v13)), (14, .int (yw v14))]) (st' := [.int (0 : Int32)]) rfl ?_
            refine xZ.eqs (lv2 := [(16, .int (yw x3)), (15, .int (yw x2)), (0, .ref v0), (1, .ref v1), (2, .int (yw v2)), (3, .int (yw v3)), (4, .ref v4), (5, .ref v5), (6, .int (yw v6)), (7, .int (yw v7)), (8, .int (yw v8)), (13, .int (yw v13)), (14, .int (yw v14))]) (st2 := [.int (yw 0)]) rfl (by simp only [yl_lit, yL_lit, yw_add, yw_sub, yw_mul, yw_neg, yl_add, yl_sub, yl_mul, cj_and, cj_or, cj_xor, cj_shl, cj_shr, cj_ushr, cj_div, cj_i2c, cj_i2b, cj_dc, ck_and, ck_or, ck_xor, ck_shl, ck_shr, ck_ushr, ck_i2l, ck_l2i, ck_cmp]) ?_
            exact xZ.jrete (me := xm220) hP_220 rfl rfl rfl
          · skip
            refine xZ.adv (me := xm220) hP_220 3 (pc' := 413) (lv' := [(16, .int (yw x3)), (15, .int (yw x2)), (0, .ref v0), (1, .ref v1), (2, .int (yw v2)), (3, .int (yw v3)), (4, .ref v4), (5, .ref v5), (6, .int (yw v6)), (7, .int (yw v7)), (8, .int (yw v8)), (13, .int (yw v13)), (14, .int (yw v14))]) (st' := [.int (yw x3), .ref v4, .ref v0]) rfl ?_
            refine xZ.k_aJ (me := xm220) hP_220 rfl (fun x4 => ?_)
            refine xZ.adv (me := xm220) hP_220 3 (pc' := 418) (lv' := [(16, .int (yw x3)), (15, .int (yw x2)), (0, .ref v0), (1, .ref v1), (2, .int (yw v2)), (3, .int (yw v3)), (4, .ref v4), (5, .ref v5), (6, .int (yw v6)), (7, .int (yw v7)), (8, .int (yw v8)), (13, .int (yw v13)), (14, .int (yw v14))]) (st' := [.int (1 : Int32), .int (yw v14), .ref v0, .int (yw x4), .ref v0]) rfl ?_
            refine xZ.eqs (lv2 := [(16, .int (yw x3)), (15, .int (yw x2)), (0, .ref v0), (1, .ref v1), (2, .int (yw v2)), (3, .int (yw v3)), (4, .ref v4), (5, .ref v5), (6, .int (yw v6)), (7, .int (yw v7)), (8, .int (yw v8)), (13, .int (yw v13)), (14, .int (yw v14))]) (st2 := [.int (yw 1), .int (yw v14), .ref v0, .int (yw x4), .ref v0]) rfl (by simp only [yl_lit, yL_lit, yw_add, yw_sub, yw_mul, yw_neg, yl_add, yl_sub, yl_mul, cj_and, cj_or, cj_xor, cj_shl, cj_shr, cj_ushr, cj_div, cj_i2c, cj_i2b, cj_dc, ck_and, ck_or, ck_xor, ck_shl, ck_shr, ck_ushr, ck_i2l, ck_l2i, ck_cmp]) ?_
            refine xZ.callv (κ := oJ) (av := [.int (yw v14), .int (yw 1)]) (rest := [.int (yw x4), .ref v0]) (st' := fun x5 => [.int (yw x5), .int (yw x4), .ref v0]) (k0 := v0) (me := xm220) hP_220 rfl (Or.inl rfl) ⟨rfl, by decide⟩ rfl rfl (Nat.le_of_ble_eq_true rfl) (by decide) hP_233 (Nat.le_of_ble_eq_true rfl) (fun _ => rfl) (k_f_Calendarhall_ringAt O f (d + 7) v0 v14 1 M3) (fun x5 M4 => ?_)
            refine xZ.callv (κ := oJ) (av := [.int (yw x4), .int (yw x5)]) (rest := []) (st' := fun x6 => [.int (yw x6)]) (k0 := v0) (me := xm220) hP_220 rfl (Or.inl rfl) ⟨rfl, by decide⟩ rfl rfl (Nat.le_of_ble_eq_true rfl) (by decide) hP_98 (Nat.le_of_ble_eq_true rfl) (fun _ => rfl) (k_f_Calendarhall_begin O f (d + 3) v0 x4 x5 M4) (fun x6 M5 => ?_)
            refine xZ.adv (me := xm220) hP_220 2 (pc' := 428) (lv' := [(16, .int (yw x3)), (15, .int (yw x2)), (0, .ref v0), (1, .ref v1), (2, .int (yw v2)), (3, .int (yw v3)), (4, .ref v4), (5, .ref v5), (6, .int (yw v6)), (7, .int (yw v7)), (8, .int (yw v8)), (13, .int (yw v13)), (14, .int (yw v14))]) (st' := [.int (yw x3), .ref v5, .int (yw x6)]) rfl ?_
            refine xZ.k_aJ (me := xm220) hP_220 rfl (fun x7 => ?_)
            refine xZ.adv (me := xm220) hP_220 2 (pc' := 432) (lv' := [(16, .int (yw x3)), (15, .int (yw x2)), (0, .ref v0), (1, .ref v1), (2, .int (yw v2)), (3, .int (yw v3)), (4, .ref v4), (5, .ref v5), (6, .int (yw v6)), (7, .int (yw v7)), (8, .int (yw v8)), (13, .int (yw v13)), (14, .int (yw v14))]) (st' := [.int (yw x2), .int ((yw x6) - (yw x7))]) rfl ?_
            refine xZ.eqs (lv2 := [(16, .int (yw x3)), (15, .int (yw x2)), (0, .ref v0), (1, .ref v1), (2, .int (yw v2)), (3, .int (yw v3)), (4, .ref v4), (5, .ref v5), (6, .int (yw v6)), (7, .int (yw v7)), (8, .int (yw v8)), (13, .int (yw v13)), (14, .int (yw v14))]) (st2 := [.int (yw x2), .int (yw (x6 - x7))]) rfl (by simp only [yl_lit, yL_lit, yw_add, yw_sub, yw_mul, yw_neg, yl_add, yl_sub, yl_mul, cj_and, cj_or, cj_xor, cj_shl, cj_shr, cj_ushr, cj_div, cj_i2c, cj_i2b, cj_dc, ck_and, ck_or, ck_xor, ck_shl, ck_shr, ck_ushr, ck_i2l, ck_l2i, ck_cmp]) ?_
            refine xZ.jc_eq (me := xm220) hP_220 rfl (fun h5 => ?_) (fun h5 => ?_)
            · skip
              refine xZ.adv (me := xm220) hP_220 4 (pc' := 357) (lv' := [(14, .int ((yw v14) + (1 : Int32))), (13, .int (yw x2)), (16, .int (yw x3)), (15, .int (yw x2)), (0, .ref v0), (1, .ref v1), (2, .int (yw v2)), (3, .int (yw v3)), (4, .ref v4), (5, .ref v5), (6, .int (yw v6)), (7, .int (yw v7)), (8, .int (yw v8))]) (st' := []) rfl ?_
              refine xZ.eqs (lv2 := [(14, .int (yw (v14 + 1))), (13, .int (yw x2)), (16, .int (yw x3)), (15, .int (yw x2)), (0, .ref v0), (1, .ref v1), (2, .int (yw v2)), (3, .int (yw v3)), (4, .ref v4), (5, .ref v5), (6, .int (yw v6)), (7, .int (yw v7)), (8, .int (yw v8))]) (st2 := []) (by simp only [yl_lit, yL_lit, yw_add, yw_sub, yw_mul, yw_neg, yl_add, yl_sub, yl_mul, cj_and, cj_or, cj_xor, cj_shl, cj_shr, cj_ushr, cj_div, cj_i2c, cj_i2b, cj_dc, ck_and, ck_or, ck_xor, ck_shl, ck_shr, ck_ushr, ck_i2l, ck_l2i, ck_cmp]) rfl ?_
              exact xZ.sub (xsc (.tail _ (.tail _ (.tail _ (.tail _ (.head _))))) (xsc (.tail _ (.tail _ (.tail _ (.tail _ (.tail _ (.head _)))))) (xsc (.tail _ (.tail _ (.tail _ (.tail _ (.tail _ (.tail _ (.head _))))))) (xsc (.tail _ (.tail _ (.tail _ (.tail _ (.tail _ (.tail _ (.tail _ (.head _)))))))) (xsc (.tail _ (.tail _ (.tail _ (.tail _ (.tail _ (.tail _ (.tail _ (.tail _ (.head _))))))))) (xsc (.tail _ (.tail _ (.tail _ (.tail _ (.tail _ (.tail _ (.tail _ (.tail _ (.tail _ (.head _)))))))))) (xsc (.tail _ (.tail _ (.tail _ (.tail _ (.tail _ (.tail _ (.tail _ (.tail _ (.tail _ (.tail _ (.head _))))))))))) (xsc (.tail _ (.tail _ (.tail _ (.tail _ (.tail _ (.tail _ (.tail _ (.tail _ (.tail _ (.tail _ (.tail _ (.head _)))))))))))) (xsc (.tail _ (.tail _ (.tail _ (.tail _ (.tail _ (.tail _ (.tail _ (.tail _ (.tail _ (.tail _ (.tail _ (.tail _ (.head _))))))))))))) (xsc (.tail _ (.head _)) (xsc (.head _) xsn))))))))))) (show ([14, 13, 16, 15, 0, 1, 2, 3, 4, 5, 6, 7, 8] : List Nat).Nodup from by decide) (ih v0 v1 v2 v3 v4 v5 v6 v7 v8 x2 (v14 + 1) M5)
            · skip
              refine xZ.adv (me := xm220) hP_220 1 (pc' := 436) (lv' := [(16, .int (yw x3)), (15, .int (yw x2)), (0, .ref v0), (1, .ref v1), (2, .int (yw v2)), (3, .int (yw v3)), (4, .ref v4), (5, .ref v5), (6, .int (yw v6)), (7, .int (yw v7)), (8, .int (yw v8)), (13, .int (yw v13)), (14, .int (yw v14))]) (st' := [.int (0 : Int32)]) rfl ?_
              refine xZ.eqs (lv2 := [(16, .int (yw x3)), (15, .int (yw x2)), (0, .ref v0), (1, .ref v1), (2, .int (yw v2)), (3, .int (yw v3)), (4, .ref v4), (5, .ref v5), (6, .int (yw v6)), (7, .int (yw v7)), (8, .int (yw v8)), (13, .int (yw v13)), (14, .int (yw v14))]) (st2 := [.int (yw 0)]) rfl (by simp only [yl_lit, yL_lit, yw_add, yw_sub, yw_mul, yw_neg, yl_add, yl_sub, yl_mul, cj_and, cj_or, cj_xor, cj_shl, cj_shr, cj_ushr, cj_div, cj_i2c, cj_i2b, cj_dc, ck_and, ck_or, ck_xor, ck_shl, ck_shr, ck_ushr, ck_i2l, ck_l2i, ck_cmp]) ?_
              exact xZ.jrete (me := xm220) hP_220 rfl rfl rfl
def f_Law_areRung_151 (O : Nat → Option va_E) (f : Nat) (K114 : Nat → Nat → Int → Int → Nat → Nat → Int → xM → Option (Int × xM)) : Nat → Nat → Nat → Int → Int → Nat → Nat → Int → Int → Int → Int → Int → Int → xM → Option (Int × xM)
  | 0, _, _, _, _, _, _, _, _, _, _, _, _, _ => none
  | n + 1, v0, v1, v2, v3, v4, v5, v6, v7, v8, v9, v10, v11, M =>
    if yw v3 ≤ yw v11 then (
      (isO O M v0 12).bind fun _ =>
      xcl (f_Calendarhall_rings O f v0 M) fun x1 M1 =>
      (isO O M1 v0 12).bind fun _ =>
      xcl (f_Calendarhall_pass O f v0 v8 M1) fun x2 M2 =>
      if yw x2 = yw v10 then (
        (isO O M2 v0 12).bind fun _ =>
        xcl (f_Calendarhall_now O f v0 M2) fun x3 M3 =>
        if yw x3 = yw (v7 + v8) then (
          (isO O M3 v0 12).bind fun _ =>
          xcl (f_Calendarhall_rings O f v0 M3) fun x4 M4 =>
          xcl (f_Math_min O f 30 (x1 + v10) M4) fun x5 M5 =>
          if yw x4 = yw x5 then (
            (isO O M5 v0 12).bind fun _ =>
            xcl (f_Calendarhall_rings O f v0 M5) fun x6 M6 =>
            xcl (f_Math_max O f 0 (x6 - x2) M6) fun x7 M7 =>
            f_Law_areRung_357 O f K114 f v0 v1 v2 v3 v4 v5 v6 v7 v8 v7 x7 M7
          ) else
          some (0, M5)
        ) else
        some (0, M3)
      ) else
      some (0, M2)
    ) else
    xcl (nO M 13) fun x8 M8 =>
    (aJ O M8 v5 v11).bind fun x9 =>
    (aJ O M8 v5 v11).bind fun x10 =>
    xcl (f_LDates_ctor O f x8 v0 v2 ((v7 + x9) + 1) (((v7 + v8) + x10) + 1) M8) fun _ M9 =>
    f_Law_areRung_194 O f (f_Law_areRung_151 O f K114 n) f v0 v1 v2 v3 v4 v5 v6 v7 v8 v9 v10 v11 x8 0 M9
set_option maxRecDepth 20000 in
theorem k_f_Law_areRung_151 (O : Nat → Option va_E) (f d : Nat) (K114 : Nat → Nat → Int → Int → Nat → Nat → Int → xM → Option (Int × xM)) (hK114 : ∀ (v0 : Nat) (v1 : Nat) (v2 : Int) (v3 : Int) (v4 : Nat) (v5 : Nat) (v6 : Int) M, xZ oJ O (d + 9) 220 114 [(0, .ref v0), (1, .ref v1), (2, .int (yw v2)), (3, .int (yw v3)), (4, .ref v4), (5, .ref v5), (6, .int (yw v6))] [] M (K114 v0 v1 v2 v3 v4 v5 v6 M)) : ∀ (n : Nat) (v0 : Nat) (v1 : Nat) (v2 : Int) (v3 : Int) (v4 : Nat) (v5 : Nat) (v6 : Int) (v7 : Int) (v8 : Int) (v9 : Int) (v10 : Int) (v11 : Int) (M : xM), xZ oJ O (d + 9) 220 151 [(0, .ref v0), (1, .ref v1), (2, .int (yw v2)), (3, .int (yw v3)), (4, .ref v4), (5, .ref v5), (6, .int (yw v6)), (7, .int (yw v7)), (8, .int (yw v8)), (9, .int (yw v9)), (10, .int (yw v10)), (11, .int (yw v11))] [] M (f_Law_areRung_151 O f K114 n v0 v1 v2 v3 v4 v5 v6 v7 v8 v9 v10 v11 M) := by
  intro n
  induction n with
  | zero =>
    intro v0 v1 v2 v3 v4 v5 v6 v7 v8 v9 v10 v11 M
    exact xZ.no
  | succ n ih =>
    intro v0 v1 v2 v3 v4 v5 v6 v7 v8 v9 v10 v11 M
    unfold f_Law_areRung_151
    refine xZ.adv (me := xm220) hP_220 2 (pc' := 154) (lv' := [(0, .ref v0), (1, .ref v1), (2, .int (yw v2)), (3, .int (yw v3)), (4, .ref v4), (5, .ref v5), (6, .int (yw v6)), (7, .int (yw v7)), (8, .int (yw v8)), (9, .int (yw v9)), (10, .int (yw v10)), (11, .int (yw v11))]) (st' := [.int (yw v3), .int (yw v11)]) rfl ?_
    refine xZ.jc_ge (me := xm220) hP_220 rfl (fun h1 => ?_) (fun h1 => ?_)
    · skip
      refine xZ.adv (me := xm220) hP_220 1 (pc' := 289) (lv' := [(0, .ref v0), (1, .ref v1), (2, .int (yw v2)), (3, .int (yw v3)), (4, .ref v4), (5, .ref v5), (6, .int (yw v6)), (7, .int (yw v7)), (8, .int (yw v8)), (9, .int (yw v9)), (10, .int (yw v10)), (11, .int (yw v11))]) (st' := [.ref v0]) rfl ?_
      refine xZ.callv (κ := oJ) (av := []) (rest := []) (st' := fun x1 => [.int (yw x1)]) (k0 := v0) (me := xm220) hP_220 rfl (Or.inl rfl) ⟨rfl, by decide⟩ rfl rfl (Nat.le_of_ble_eq_true rfl) (by decide) hP_228 (Nat.le_of_ble_eq_true rfl) (fun _ => rfl) (k_f_Calendarhall_rings O f (d + 8) v0 M) (fun x1 M1 => ?_)
      refine xZ.adv (me := xm220) hP_220 3 (pc' := 297) (lv' := [(11, .int (yw x1)), (0, .ref v0), (1, .ref v1), (2, .int (yw v2)), (3, .int (yw v3)), (4, .ref v4), (5, .ref v5), (6, .int (yw v6)), (7, .int (yw v7)), (8, .int (yw v8)), (9, .int (yw v9)), (10, .int (yw v10))]) (st' := [.int (yw v8), .ref v0]) rfl ?_
      refine xZ.callv (κ := oJ) (av := [.int (yw v8)]) (rest := []) (st' := fun x2 => [.int (yw x2)]) (k0 := v0) (me := xm220) hP_220 rfl (Or.inl rfl) ⟨rfl, by decide⟩ rfl rfl (Nat.le_of_ble_eq_true rfl) (by decide) hP_229 (Nat.le_of_ble_eq_true rfl) (fun _ => rfl) (k_f_Calendarhall_pass O f (d + 1) v0 v8 M1) (fun x2 M2 => ?_)
      refine xZ.adv (me := xm220) hP_220 3 (pc' := 306) (lv' := [(12, .int (yw x2)), (11, .int (yw x1)), (0, .ref v0), (1, .ref v1), (2, .int (yw v2)), (3, .int (yw v3)), (4, .ref v4), (5, .ref v5), (6, .int (yw v6)), (7, .int (yw v7)), (8, .int (yw v8)), (9, .int (yw v9)), (10, .int (yw v10))]) (st' := [.int (yw v10), .int (yw x2)]) rfl ?_
      refine xZ.jc_ne (me := xm220) hP_220 rfl (fun h2 => ?_) (fun h2 => ?_)
      · skip
        refine xZ.adv (me := xm220) hP_220 1 (pc' := 310) (lv' := [(12, .int (yw x2)), (11, .int (yw x1)), (0, .ref v0), (1, .ref v1), (2, .int (yw v2)), (3, .int (yw v3)), (4, .ref v4), (5, .ref v5), (6, .int (yw v6)), (7, .int (yw v7)), (8, .int (yw v8)), (9, .int (yw v9)), (10, .int (yw v10))]) (st' := [.ref v0]) rfl ?_
        refine xZ.callv (κ := oJ) (av := []) (rest := []) (st' := fun x3 => [.int (yw x3)]) (k0 := v0) (me := xm220) hP_220 rfl (Or.inl rfl) ⟨rfl, by decide⟩ rfl rfl (Nat.le_of_ble_eq_true rfl) (by decide) hP_224 (Nat.le_of_ble_eq_true rfl) (fun _ => rfl) (k_f_Calendarhall_now O f (d + 8) v0 M2) (fun x3 M3 => ?_)
        refine xZ.adv (me := xm220) hP_220 3 (pc' := 318) (lv' := [(12, .int (yw x2)), (11, .int (yw x1)), (0, .ref v0), (1, .ref v1), (2, .int (yw v2)), (3, .int (yw v3)), (4, .ref v4), (5, .ref v5), (6, .int (yw v6)), (7, .int (yw v7)), (8, .int (yw v8)), (9, .int (yw v9)), (10, .int (yw v10))]) (st' := [.int ((yw v7) + (yw v8)), .int (yw x3)]) rfl ?_
        refine xZ.eqs (lv2 := [(12, .int (yw x2)), (11, .int (yw x1)), (0, .ref v0), (1, .ref v1), (2, .int (yw v2)), (3, .int (yw v3)), (4, .ref v4), (5, .ref v5), (6, .int (yw v6)), (7, .int (yw v7)), (8, .int (yw v8)), (9, .int (yw v9)), (10, .int (yw v10))]) (st2 := [.int (yw (v7 + v8)), .int (yw x3)]) rfl (by simp only [yl_lit, yL_lit, yw_add, yw_sub, yw_mul, yw_neg, yl_add, yl_sub, yl_mul, cj_and, cj_or, cj_xor, cj_shl, cj_shr, cj_ushr, cj_div, cj_i2c, cj_i2b, cj_dc, ck_and, ck_or, ck_xor, ck_shl, ck_shr, ck_ushr, ck_i2l, ck_l2i, ck_cmp]) ?_
        refine xZ.jc_ne (me := xm220) hP_220 rfl (fun h3 => ?_) (fun h3 => ?_)
        · skip
          refine xZ.adv (me := xm220) hP_220 1 (pc' := 322) (lv' := [(12, .int (yw x2)), (11, .int (yw x1)), (0, .ref v0), (1, .ref v1), (2, .int (yw v2)), (3, .int (yw v3)), (4, .ref v4), (5, .ref v5), (6, .int (yw v6)), (7, .int (yw v7)), (8, .int (yw v8)), (9, .int (yw v9)), (10, .int (yw v10))]) (st' := [.ref v0]) rfl ?_
          refine xZ.callv (κ := oJ) (av := []) (rest := []) (st' := fun x4 => [.int (yw x4)]) (k0 := v0) (me := xm220) hP_220 rfl (Or.inl rfl) ⟨rfl, by decide⟩ rfl rfl (Nat.le_of_ble_eq_true rfl) (by decide) hP_228 (Nat.le_of_ble_eq_true rfl) (fun _ => rfl) (k_f_Calendarhall_rings O f (d + 8) v0 M3) (fun x4 M4 => ?_)
          refine xZ.adv (me := xm220) hP_220 4 (pc' := 332) (lv' := [(12, .int (yw x2)), (11, .int (yw x1)), (0, .ref v0), (1, .ref v1), (2, .int (yw v2)), (3, .int (yw v3)), (4, .ref v4), (5, .ref v5), (6, .int (yw v6)), (7, .int (yw v7)), (8, .int (yw v8)), (9, .int (yw v9)), (10, .int (yw v10))]) (st' := [.int ((yw x1) + (yw v10)), .int (30 : Int32), .int (yw x4)]) rfl ?_
          refine xZ.eqs (lv2 := [(12, .int (yw x2)), (11, .int (yw x1)), (0, .ref v0), (1, .ref v1), (2, .int (yw v2)), (3, .int (yw v3)), (4, .ref v4), (5, .ref v5), (6, .int (yw v6)), (7, .int (yw v7)), (8, .int (yw v8)), (9, .int (yw v9)), (10, .int (yw v10))]) (st2 := [.int (yw (x1 + v10)), .int (yw 30), .int (yw x4)]) rfl (by simp only [yl_lit, yL_lit, yw_add, yw_sub, yw_mul, yw_neg, yl_add, yl_sub, yl_mul, cj_and, cj_or, cj_xor, cj_shl, cj_shr, cj_ushr, cj_div, cj_i2c, cj_i2b, cj_dc, ck_and, ck_or, ck_xor, ck_shl, ck_shr, ck_ushr, ck_i2l, ck_l2i, ck_cmp]) ?_
          refine xZ.calls (κ := oJ) (av := [.int (yw 30), .int (yw (x1 + v10))]) (rest := [.int (yw x4)]) (st' := fun x5 => [.int (yw x5), .int (yw x4)]) (me := xm220) hP_220 rfl rfl rfl (Nat.le_of_ble_eq_true rfl) (by decide) hP_248 (Nat.le_of_ble_eq_true rfl) (fun _ => rfl) (k_f_Math_min O f (d + 8) 30 (x1 + v10) M4) (fun x5 M5 => ?_)
          refine xZ.jc_eq (me := xm220) hP_220 rfl (fun h4 => ?_) (fun h4 => ?_)
          · skip
            refine xZ.adv (me := xm220) hP_220 4 (pc' := 346) (lv' := [(13, .int (yw v7)), (12, .int (yw x2)), (11, .int (yw x1)), (0, .ref v0), (1, .ref v1), (2, .int (yw v2)), (3, .int (yw v3)), (4, .ref v4), (5, .ref v5), (6, .int (yw v6)), (7, .int (yw v7)), (8, .int (yw v8)), (9, .int (yw v9)), (10, .int (yw v10))]) (st' := [.ref v0, .int (0 : Int32)]) rfl ?_
            refine xZ.eqs (lv2 := [(13, .int (yw v7)), (12, .int (yw x2)), (11, .int (yw x1)), (0, .ref v0), (1, .ref v1), (2, .int (yw v2)), (3, .int (yw v3)), (4, .ref v4), (5, .ref v5), (6, .int (yw v6)), (7, .int (yw v7)), (8, .int (yw v8)), (9, .int (yw v9)), (10, .int (yw v10))]) (st2 := [.ref v0, .int (yw 0)]) rfl (by simp only [yl_lit, yL_lit, yw_add, yw_sub, yw_mul, yw_neg, yl_add, yl_sub, yl_mul, cj_and, cj_or, cj_xor, cj_shl, cj_shr, cj_ushr, cj_div, cj_i2c, cj_i2b, cj_dc, ck_and, ck_or, ck_xor, ck_shl, ck_shr, ck_ushr, ck_i2l, ck_l2i, ck_cmp]) ?_
            refine xZ.callv (κ := oJ) (av := []) (rest := [.int (yw 0)]) (st' := fun x6 => [.int (yw x6), .int (yw 0)]) (k0 := v0) (me := xm220) hP_220 rfl (Or.inl rfl) ⟨rfl, by decide⟩ rfl rfl (Nat.le_of_ble_eq_true rfl) (by decide) hP_228 (Nat.le_of_ble_eq_true rfl) (fun _ => rfl) (k_f_Calendarhall_rings O f (d + 8) v0 M5) (fun x6 M6 => ?_)
            refine xZ.adv (me := xm220) hP_220 2 (pc' := 352) (lv' := [(13, .int (yw v7)), (12, .int (yw x2)), (11, .int (yw x1)), (0, .ref v0), (1, .ref v1), (2, .int (yw v2)), (3, .int (yw v3)), (4, .ref v4), (5, .ref v5), (6, .int (yw v6)), (7, .int (yw v7)), (8, .int (yw v8)), (9, .int (yw v9)), (10, .int (yw v10))]) (st' := [.int ((yw x6) - (yw x2)), .int (yw 0)]) rfl ?_
            refine xZ.eqs (lv2 := [(13, .int (yw v7)), (12, .int (yw x2)), (11, .int (yw x1)), (0, .ref v0), (1, .ref v1), (2, .int (yw v2)), (3, .int (yw v3)), (4, .ref v4), (5, .ref v5), (6, .int (yw v6)), (7, .int (yw v7)), (8, .int (yw v8)), (9, .int (yw v9)), (10, .int (yw v10))]) (st2 := [.int (yw (x6 - x2)), .int (yw 0)]) rfl (by simp only [yl_lit, yL_lit, yw_add, yw_sub, yw_mul, yw_neg, yl_add, yl_sub, yl_mul, cj_and, cj_or, cj_xor, cj_shl, cj_shr, cj_ushr, cj_div, cj_i2c, cj_i2b, cj_dc, ck_and, ck_or, ck_xor, ck_shl, ck_shr, ck_ushr, ck_i2l, ck_l2i, ck_cmp]) ?_
            refine xZ.calls (κ := oJ) (av := [.int (yw 0), .int (yw (x6 - x2))]) (rest := []) (st' := fun x7 => [.int (yw x7)]) (me := xm220) hP_220 rfl rfl rfl (Nat.le_of_ble_eq_true rfl) (by decide) hP_247 (Nat.le_of_ble_eq_true rfl) (fun _ => rfl) (k_f_Math_max O f (d + 8) 0 (x6 - x2) M6) (fun x7 M7 => ?_)
            refine xZ.adv (me := xm220) hP_220 1 (pc' := 357) (lv' := [(14, .int (yw x7)), (13, .int (yw v7)), (12, .int (yw x2)), (11, .int (yw x1)), (0, .ref v0), (1, .ref v1), (2, .int (yw v2)), (3, .int (yw v3)), (4, .ref v4), (5, .ref v5), (6, .int (yw v6)), (7, .int (yw v7)), (8, .int (yw v8)), (9, .int (yw v9)), (10, .int (yw v10))]) (st' := []) rfl ?_
            exact xZ.sub (xsc (.tail _ (.tail _ (.tail _ (.tail _ (.head _))))) (xsc (.tail _ (.tail _ (.tail _ (.tail _ (.tail _ (.head _)))))) (xsc (.tail _ (.tail _ (.tail _ (.tail _ (.tail _ (.tail _ (.head _))))))) (xsc (.tail _ (.tail _ (.tail _ (.tail _ (.tail _ (.tail _ (.tail _ (.head _)))))))) (xsc (.tail _ (.tail _ (.tail _ (.tail _ (.tail _ (.tail _ (.tail _ (.tail _ (.head _))))))))) (xsc (.tail _ (.tail _ (.tail _ (.tail _ (.tail _ (.tail _ (.tail _ (.tail _ (.tail _ (.head _)))))))))) (xsc (.tail _ (.tail _ (.tail _ (.tail _ (.tail _ (.tail _ (.tail _ (.tail _ (.tail _ (.tail _ (.head _))))))))))) (xsc (.tail _ (.tail _ (.tail _ (.tail _ (.tail _ (.tail _ (.tail _ (.tail _ (.tail _ (.tail _ (.tail _ (.head _)))))))))))) (xsc (.tail _ (.tail _ (.tail _ (.tail _ (.tail _ (.tail _ (.tail _ (.tail _ (.tail _ (.tail _ (.tail _ (.tail _ (.head _))))))))))))) (xsc (.tail _ (.head _)) (xsc (.head _) xsn))))))))))) (show ([14, 13, 12, 11, 0, 1, 2, 3, 4, 5, 6, 7, 8, 9, 10] : List Nat).Nodup from by decide) (k_f_Law_areRung_357 O f d K114 hK114 f v0 v1 v2 v3 v4 v5 v6 v7 v8 v7 x7 M7)
          · skip
            refine xZ.adv (me := xm220) hP_220 1 (pc' := 339) (lv' := [(12, .int (yw x2)), (11, .int (yw x1)), (0, .ref v0), (1, .ref v1), (2, .int (yw v2)), (3, .int (yw v3)), (4, .ref v4), (5, .ref v5), (6, .int (yw v6)), (7, .int (yw v7)), (8, .int (yw v8)), (9, .int (yw v9)), (10, .int (yw v10))]) (st' := [.int (0 : Int32)]) rfl ?_
            refine xZ.eqs (lv2 := [(12, .int (yw x2)), (11, .int (yw x1)), (0, .ref v0), (1, .ref v1), (2, .int (yw v2)), (3, .int (yw v3)), (4, .ref v4), (5, .ref v5), (6, .int (yw v6)), (7, .int (yw v7)), (8, .int (yw v8)), (9, .int (yw v9)), (10, .int (yw v10))]) (st2 := [.int (yw 0)]) rfl (by simp only [yl_lit, yL_lit, yw_add, yw_sub, yw_mul, yw_neg, yl_add, yl_sub, yl_mul, cj_and, cj_or, cj_xor, cj_shl, cj_shr, cj_ushr, cj_div, cj_i2c, cj_i2b, cj_dc, ck_and, ck_or, ck_xor, ck_shl, ck_shr, ck_ushr, ck_i2l, ck_l2i, ck_cmp]) ?_
            exact xZ.jrete (me := xm220) hP_220 rfl rfl rfl
        · skip
          refine xZ.adv (me := xm220) hP_220 1 (pc' := 339) (lv' := [(12, .int (yw x2)), (11, .int (yw x1)), (0, .ref v0), (1, .ref v1), (2, .int (yw v2)), (3, .int (yw v3)), (4, .ref v4), (5, .ref v5), (6, .int (yw v6)), (7, .int (yw v7)), (8, .int (yw v8)), (9, .int (yw v9)), (10, .int (yw v10))]) (st' := [.int (0 : Int32)]) rfl ?_
          refine xZ.eqs (lv2 := [(12, .int (yw x2)), (11, .int (yw x1)), (0, .ref v0), (1, .ref v1), (2, .int (yw v2)), (3, .int (yw v3)), (4, .ref v4), (5, .ref v5), (6, .int (yw v6)), (7, .int (yw v7)), (8, .int (yw v8)), (9, .int (yw v9)), (10, .int (yw v10))]) (st2 := [.int (yw 0)]) rfl (by simp only [yl_lit, yL_lit, yw_add, yw_sub, yw_mul, yw_neg, yl_add, yl_sub, yl_mul, cj_and, cj_or, cj_xor, cj_shl, cj_shr, cj_ushr, cj_div, cj_i2c, cj_i2b, cj_dc, ck_and, ck_or, ck_xor, ck_shl, ck_shr, ck_ushr, ck_i2l, ck_l2i, ck_cmp]) ?_
          exact xZ.jrete (me := xm220) hP_220 rfl rfl rfl
      · skip
        refine xZ.adv (me := xm220) hP_220 1 (pc' := 339) (lv' := [(12, .int (yw x2)), (11, .int (yw x1)), (0, .ref v0), (1, .ref v1), (2, .int (yw v2)), (3, .int (yw v3)), (4, .ref v4), (5, .ref v5), (6, .int (yw v6)), (7, .int (yw v7)), (8, .int (yw v8)), (9, .int (yw v9)), (10, .int (yw v10))]) (st' := [.int (0 : Int32)]) rfl ?_
        refine xZ.eqs (lv2 := [(12, .int (yw x2)), (11, .int (yw x1)), (0, .ref v0), (1, .ref v1), (2, .int (yw v2)), (3, .int (yw v3)), (4, .ref v4), (5, .ref v5), (6, .int (yw v6)), (7, .int (yw v7)), (8, .int (yw v8)), (9, .int (yw v9)), (10, .int (yw v10))]) (st2 := [.int (yw 0)]) rfl (by simp only [yl_lit, yL_lit, yw_add, yw_sub, yw_mul, yw_neg, yl_add, yl_sub, yl_mul, cj_and, cj_or, cj_xor, cj_shl, cj_shr, cj_ushr, cj_div, cj_i2c, cj_i2b, cj_dc, ck_and, ck_or, ck_xor, ck_shl, ck_shr, ck_ushr, ck_i2l, ck_l2i, ck_cmp]) ?_
        exact xZ.jrete (me := xm220) hP_220 rfl rfl rfl
    · skip
      refine xZ.k_nO (me := xm220) hP_220 rfl rfl (fun x8 M8 => ?_)
      refine xZ.adv (me := xm220) hP_220 6 (pc' := 169) (lv' := [(0, .ref v0), (1, .ref v1), (2, .int (yw v2)), (3, .int (yw v3)), (4, .ref v4), (5, .ref v5), (6, .int (yw v6)), (7, .int (yw v7)), (8, .int (yw v8)), (9, .int (yw v9)), (10, .int (yw v10)), (11, .int (yw v11))]) (st' := [.int (yw v11), .ref v5, .int (yw v7), .int (yw v2), .ref v0, .ref x8, .ref x8]) rfl ?_
      refine xZ.k_aJ (me := xm220) hP_220 rfl (fun x9 => ?_)
      refine xZ.adv (me := xm220) hP_220 8 (pc' := 182) (lv' := [(0, .ref v0), (1, .ref v1), (2, .int (yw v2)), (3, .int (yw v3)), (4, .ref v4), (5, .ref v5), (6, .int (yw v6)), (7, .int (yw v7)), (8, .int (yw v8)), (9, .int (yw v9)), (10, .int (yw v10)), (11, .int (yw v11))]) (st' := [.int (yw v11), .ref v5, .int ((yw v7) + (yw v8)), .int (((yw v7) + (yw x9)) + (1 : Int32)), .int (yw v2), .ref v0, .ref x8, .ref x8]) rfl ?_
      refine xZ.eqs (lv2 := [(0, .ref v0), (1, .ref v1), (2, .int (yw v2)), (3, .int (yw v3)), (4, .ref v4), (5, .ref v5), (6, .int (yw v6)), (7, .int (yw v7)), (8, .int (yw v8)), (9, .int (yw v9)), (10, .int (yw v10)), (11, .int (yw v11))]) (st2 := [.int (yw v11), .ref v5, .int (yw (v7 + v8)), .int (yw ((v7 + x9) + 1)), .int (yw v2), .ref v0, .ref x8, .ref x8]) rfl (by simp only [yl_lit, yL_lit, yw_add, yw_sub, yw_mul, yw_neg, yl_add, yl_sub, yl_mul, cj_and, cj_or, cj_xor, cj_shl, cj_shr, cj_ushr, cj_div, cj_i2c, cj_i2b, cj_dc, ck_and, ck_or, ck_xor, ck_shl, ck_shr, ck_ushr, ck_i2l, ck_l2i, ck_cmp]) ?_
      refine xZ.k_aJ (me := xm220) hP_220 rfl (fun x10 => ?_)
      refine xZ.adv (me := xm220) hP_220 3 (pc' := 186) (lv' := [(0, .ref v0), (1, .ref v1), (2, .int (yw v2)), (3, .int (yw v3)), (4, .ref v4), (5, .ref v5), (6, .int (yw v6)), (7, .int (yw v7)), (8, .int (yw v8)), (9, .int (yw v9)), (10, .int (yw v10)), (11, .int (yw v11))]) (st' := [.int (((yw (v7 + v8)) + (yw x10)) + (1 : Int32)), .int (yw ((v7 + x9) + 1)), .int (yw v2), .ref v0, .ref x8, .ref x8]) rfl ?_
      refine xZ.eqs (lv2 := [(0, .ref v0), (1, .ref v1), (2, .int (yw v2)), (3, .int (yw v3)), (4, .ref v4), (5, .ref v5), (6, .int (yw v6)), (7, .int (yw v7)), (8, .int (yw v8)), (9, .int (yw v9)), (10, .int (yw v10)), (11, .int (yw v11))]) (st2 := [.int (yw (((v7 + v8) + x10) + 1)), .int (yw ((v7 + x9) + 1)), .int (yw v2), .ref v0, .ref x8, .ref x8]) rfl (by simp only [yl_lit, yL_lit, yw_add, yw_sub, yw_mul, yw_neg, yl_add, yl_sub, yl_mul, cj_and, cj_or, cj_xor, cj_shl, cj_shr, cj_ushr, cj_div, cj_i2c, cj_i2b, cj_dc, ck_and, ck_or, ck_xor, ck_shl, ck_shr, ck_ushr, ck_i2l, ck_l2i, ck_cmp]) ?_
      refine xZ.calli (κ := oU) (av := [.ref v0, .int (yw v2), .int (yw ((v7 + x9) + 1)), .int (yw (((v7 + v8) + x10) + 1))]) (rest := [.ref x8]) (st' := fun _ => [.ref x8]) (k0 := x8) (me := xm220) hP_220 rfl (Or.inl rfl) rfl rfl (Nat.le_of_ble_eq_true rfl) (by decide) hP_152 (Nat.le_of_ble_eq_true rfl) (fun _ => rfl) (k_f_LDates_ctor O f (d + 2) x8 v0 v2 ((v7 + x9) + 1) (((v7 + v8) + x10) + 1) M8) (fun _ M9 => ?_)
      refine xZ.adv (me := xm220) hP_220 3 (pc' := 194) (lv' := [(13, .int (0 : Int32)), (12, .ref x8), (0, .ref v0), (1, .ref v1), (2, .int (yw v2)), (3, .int (yw v3)), (4, .ref v4), (5, .ref v5), (6, .int (yw v6)), (7, .int (yw v7)), (8, .int (yw v8)), (9, .int (yw v9)), (10, .int (yw v10)), (11, .int (yw v11))]) (st' := []) rfl ?_
      refine xZ.eqs (lv2 := [(13, .int (yw 0)), (12, .ref x8), (0, .ref v0), (1, .ref v1), (2, .int (yw v2)), (3, .int (yw v3)), (4, .ref v4), (5, .ref v5), (6, .int (yw v6)), (7, .int (yw v7)), (8, .int (yw v8)), (9, .int (yw v9)), (10, .int (yw v10)), (11, .int (yw v11))]) (st2 := []) (by simp only [yl_lit, yL_lit, yw_add, yw_sub, yw_mul, yw_neg, yl_add, yl_sub, yl_mul, cj_and, cj_or, cj_xor, cj_shl, cj_shr, cj_ushr, cj_div, cj_i2c, cj_i2b, cj_dc, ck_and, ck_or, ck_xor, ck_shl, ck_shr, ck_ushr, ck_i2l, ck_l2i, ck_cmp]) rfl ?_
      exact xZ.sub (xsc (.tail _ (.tail _ (.head _))) (xsc (.tail _ (.tail _ (.tail _ (.head _)))) (xsc (.tail _ (.tail _ (.tail _ (.tail _ (.head _))))) (xsc (.tail _ (.tail _ (.tail _ (.tail _ (.tail _ (.head _)))))) (xsc (.tail _ (.tail _ (.tail _ (.tail _ (.tail _ (.tail _ (.head _))))))) (xsc (.tail _ (.tail _ (.tail _ (.tail _ (.tail _ (.tail _ (.tail _ (.head _)))))))) (xsc (.tail _ (.tail _ (.tail _ (.tail _ (.tail _ (.tail _ (.tail _ (.tail _ (.head _))))))))) (xsc (.tail _ (.tail _ (.tail _ (.tail _ (.tail _ (.tail _ (.tail _ (.tail _ (.tail _ (.head _)))))))))) (xsc (.tail _ (.tail _ (.tail _ (.tail _ (.tail _ (.tail _ (.tail _ (.tail _ (.tail _ (.tail _ (.head _))))))))))) (xsc (.tail _ (.tail _ (.tail _ (.tail _ (.tail _ (.tail _ (.tail _ (.tail _ (.tail _ (.tail _ (.tail _ (.head _)))))))))))) (xsc (.tail _ (.tail _ (.tail _ (.tail _ (.tail _ (.tail _ (.tail _ (.tail _ (.tail _ (.tail _ (.tail _ (.tail _ (.head _))))))))))))) (xsc (.tail _ (.tail _ (.tail _ (.tail _ (.tail _ (.tail _ (.tail _ (.tail _ (.tail _ (.tail _ (.tail _ (.tail _ (.tail _ (.head _)))))))))))))) (xsc (.tail _ (.head _)) (xsc (.head _) xsn)))))))))))))) (show ([13, 12, 0, 1, 2, 3, 4, 5, 6, 7, 8, 9, 10, 11] : List Nat).Nodup from by decide) (k_f_Law_areRung_194 O f d (f_Law_areRung_151 O f K114 n) ih f v0 v1 v2 v3 v4 v5 v6 v7 v8 v9 v10 v11 x8 0 M9)
def f_Law_areRung_114 (O : Nat → Option va_E) (f : Nat) : Nat → Nat → Nat → Int → Int → Nat → Nat → Int → xM → Option (Int × xM)
  | 0, _, _, _, _, _, _, _, _ => none
  | n + 1, v0, v1, v2, v3, v4, v5, v6, M =>
    if yw 6 ≤ yw v6 then (
      some (1, M)
    ) else
    (isO O M v0 12).bind fun _ =>
    xcl (f_Calendarhall_now O f v0 M) fun x1 M1 =>
    (isO O M1 v1 15).bind fun _ =>
    xcl (f_LDraw_n O f v1 1440 M1) fun x2 M2 =>
    (isO O M2 v0 12).bind fun _ =>
    xcl (f_Calendarhall_nextRing O f v0 0 M2) fun x3 M3 =>
    f_Law_areRung_151 O f (f_Law_areRung_114 O f n) f v0 v1 v2 v3 v4 v5 v6 x1 (1 + x2) x3 0 0 M3
set_option maxRecDepth 20000 in
theorem k_f_Law_areRung_114 (O : Nat → Option va_E) (f d : Nat) : ∀ (n : Nat) (v0 : Nat) (v1 : Nat) (v2 : Int) (v3 : Int) (v4 : Nat) (v5 : Nat) (v6 : Int) (M : xM), xZ oJ O (d + 9) 220 114 [(0, .ref v0), (1, .ref v1), (2, .int (yw v2)), (3, .int (yw v3)), (4, .ref v4), (5, .ref v5), (6, .int (yw v6))] [] M (f_Law_areRung_114 O f n v0 v1 v2 v3 v4 v5 v6 M) := by
  intro n
  induction n with
  | zero =>
    intro v0 v1 v2 v3 v4 v5 v6 M
    exact xZ.no
  | succ n ih =>
    intro v0 v1 v2 v3 v4 v5 v6 M
    unfold f_Law_areRung_114
    refine xZ.adv (me := xm220) hP_220 2 (pc' := 118) (lv' := [(0, .ref v0), (1, .ref v1), (2, .int (yw v2)), (3, .int (yw v3)), (4, .ref v4), (5, .ref v5), (6, .int (yw v6))]) (st' := [.int (6 : Int32), .int (yw v6)]) rfl ?_
    refine xZ.eqs (lv2 := [(0, .ref v0), (1, .ref v1), (2, .int (yw v2)), (3, .int (yw v3)), (4, .ref v4), (5, .ref v5), (6, .int (yw v6))]) (st2 := [.int (yw 6), .int (yw v6)]) rfl (by simp only [yl_lit, yL_lit, yw_add, yw_sub, yw_mul, yw_neg, yl_add, yl_sub, yl_mul, cj_and, cj_or, cj_xor, cj_shl, cj_shr, cj_ushr, cj_div, cj_i2c, cj_i2b, cj_dc, ck_and, ck_or, ck_xor, ck_shl, ck_shr, ck_ushr, ck_i2l, ck_l2i, ck_cmp]) ?_
    refine xZ.jc_ge (me := xm220) hP_220 rfl (fun h1 => ?_) (fun h1 => ?_)
    · skip
      refine xZ.adv (me := xm220) hP_220 1 (pc' := 454) (lv' := [(0, .ref v0), (1, .ref v1), (2, .int (yw v2)), (3, .int (yw v3)), (4, .ref v4), (5, .ref v5), (6, .int (yw v6))]) (st' := [.int (1 : Int32)]) rfl ?_
      refine xZ.eqs (lv2 := [(0, .ref v0), (1, .ref v1), (2, .int (yw v2)), (3, .int (yw v3)), (4, .ref v4), (5, .ref v5), (6, .int (yw v6))]) (st2 := [.int (yw 1)]) rfl (by simp only [yl_lit, yL_lit, yw_add, yw_sub, yw_mul, yw_neg, yl_add, yl_sub, yl_mul, cj_and, cj_or, cj_xor, cj_shl, cj_shr, cj_ushr, cj_div, cj_i2c, cj_i2b, cj_dc, ck_and, ck_or, ck_xor, ck_shl, ck_shr, ck_ushr, ck_i2l, ck_l2i, ck_cmp]) ?_
      exact xZ.jrete (me := xm220) hP_220 rfl rfl rfl
    · skip
      refine xZ.adv (me := xm220) hP_220 1 (pc' := 122) (lv' := [(0, .ref v0), (1, .ref v1), (2, .int (yw v2)), (3, .int (yw v3)), (4, .ref v4), (5, .ref v5), (6, .int (yw v6))]) (st' := [.ref v0]) rfl ?_
      refine xZ.callv (κ := oJ) (av := []) (rest := []) (st' := fun x1 => [.int (yw x1)]) (k0 := v0) (me := xm220) hP_220 rfl (Or.inl rfl) ⟨rfl, by decide⟩ rfl rfl (Nat.le_of_ble_eq_true rfl) (by decide) hP_224 (Nat.le_of_ble_eq_true rfl) (fun _ => rfl) (k_f_Calendarhall_now O f (d + 8) v0 M) (fun x1 M1 => ?_)
      refine xZ.adv (me := xm220) hP_220 4 (pc' := 132) (lv' := [(7, .int (yw x1)), (0, .ref v0), (1, .ref v1), (2, .int (yw v2)), (3, .int (yw v3)), (4, .ref v4), (5, .ref v5), (6, .int (yw v6))]) (st' := [.int (1440 : Int32), .ref v1, .int (1 : Int32)]) rfl ?_
      refine xZ.eqs (lv2 := [(7, .int (yw x1)), (0, .ref v0), (1, .ref v1), (2, .int (yw v2)), (3, .int (yw v3)), (4, .ref v4), (5, .ref v5), (6, .int (yw v6))]) (st2 := [.int (yw 1440), .ref v1, .int (yw 1)]) rfl (by simp only [yl_lit, yL_lit, yw_add, yw_sub, yw_mul, yw_neg, yl_add, yl_sub, yl_mul, cj_and, cj_or, cj_xor, cj_shl, cj_shr, cj_ushr, cj_div, cj_i2c, cj_i2b, cj_dc, ck_and, ck_or, ck_xor, ck_shl, ck_shr, ck_ushr, ck_i2l, ck_l2i, ck_cmp]) ?_
      refine xZ.callv (κ := oJ) (av := [.int (yw 1440)]) (rest := [.int (yw 1)]) (st' := fun x2 => [.int (yw x2), .int (yw 1)]) (k0 := v1) (me := xm220) hP_220 rfl (Or.inl rfl) ⟨rfl, by decide⟩ rfl rfl (Nat.le_of_ble_eq_true rfl) (by decide) hP_12 (Nat.le_of_ble_eq_true rfl) (fun _ => rfl) (k_f_LDraw_n O f (d + 8) v1 1440 M1) (fun x2 M2 => ?_)
      refine xZ.adv (me := xm220) hP_220 4 (pc' := 140) (lv' := [(8, .int ((yw 1) + (yw x2))), (7, .int (yw x1)), (0, .ref v0), (1, .ref v1), (2, .int (yw v2)), (3, .int (yw v3)), (4, .ref v4), (5, .ref v5), (6, .int (yw v6))]) (st' := [.int (0 : Int32), .ref v0]) rfl ?_
      refine xZ.eqs (lv2 := [(8, .int (yw (1 + x2))), (7, .int (yw x1)), (0, .ref v0), (1, .ref v1), (2, .int (yw v2)), (3, .int (yw v3)), (4, .ref v4), (5, .ref v5), (6, .int (yw v6))]) (st2 := [.int (yw 0), .ref v0]) (by simp only [yl_lit, yL_lit, yw_add, yw_sub, yw_mul, yw_neg, yl_add, yl_sub, yl_mul, cj_and, cj_or, cj_xor, cj_shl, cj_shr, cj_ushr, cj_div, cj_i2c, cj_i2b, cj_dc, ck_and, ck_or, ck_xor, ck_shl, ck_shr, ck_ushr, ck_i2l, ck_l2i, ck_cmp]) (by simp only [yl_lit, yL_lit, yw_add, yw_sub, yw_mul, yw_neg, yl_add, yl_sub, yl_mul, cj_and, cj_or, cj_xor, cj_shl, cj_shr, cj_ushr, cj_div, cj_i2c, cj_i2b, cj_dc, ck_and, ck_or, ck_xor, ck_shl, ck_shr, ck_ushr, ck_i2l, ck_l2i, ck_cmp]) ?_
      refine xZ.callv (κ := oJ) (av := [.int (yw 0)]) (rest := []) (st' := fun x3 => [.int (yw x3)]) (k0 := v0) (me := xm220) hP_220 rfl (Or.inl rfl) ⟨rfl, by decide⟩ rfl rfl (Nat.le_of_ble_eq_true rfl) (by decide) hP_225 (Nat.le_of_ble_eq_true rfl) (fun _ => rfl) (k_f_Calendarhall_nextRing O f (d + 1) v0 0 M2) (fun x3 M3 => ?_)
      refine xZ.adv (me := xm220) hP_220 5 (pc' := 151) (lv' := [(11, .int (0 : Int32)), (10, .int (0 : Int32)), (9, .int (yw x3)), (8, .int (yw (1 + x2))), (7, .int (yw x1)), (0, .ref v0), (1, .ref v1), (2, .int (yw v2)), (3, .int (yw v3)), (4, .ref v4), (5, .ref v5), (6, .int (yw v6))]) (st' := []) rfl ?_
      refine xZ.eqs (lv2 := [(11, .int (yw 0)), (10, .int (yw 0)), (9, .int (yw x3)), (8, .int (yw (1 + x2))), (7, .int (yw x1)), (0, .ref v0), (1, .ref v1), (2, .int (yw v2)), (3, .int (yw v3)), (4, .ref v4), (5, .ref v5), (6, .int (yw v6))]) (st2 := []) (by simp only [yl_lit, yL_lit, yw_add, yw_sub, yw_mul, yw_neg, yl_add, yl_sub, yl_mul, cj_and, cj_or, cj_xor, cj_shl, cj_shr, cj_ushr, cj_div, cj_i2c, cj_i2b, cj_dc, ck_and, ck_or, ck_xor, ck_shl, ck_shr, ck_ushr, ck_i2l, ck_l2i, ck_cmp]) rfl ?_
      exact xZ.sub (xsc (.tail _ (.tail _ (.tail _ (.tail _ (.tail _ (.head _)))))) (xsc (.tail _ (.tail _ (.tail _ (.tail _ (.tail _ (.tail _ (.head _))))))) (xsc (.tail _ (.tail _ (.tail _ (.tail _ (.tail _ (.tail _ (.tail _ (.head _)))))))) (xsc (.tail _ (.tail _ (.tail _ (.tail _ (.tail _ (.tail _ (.tail _ (.tail _ (.head _))))))))) (xsc (.tail _ (.tail _ (.tail _ (.tail _ (.tail _ (.tail _ (.tail _ (.tail _ (.tail _ (.head _)))))))))) (xsc (.tail _ (.tail _ (.tail _ (.tail _ (.tail _ (.tail _ (.tail _ (.tail _ (.tail _ (.tail _ (.head _))))))))))) (xsc (.tail _ (.tail _ (.tail _ (.tail _ (.tail _ (.tail _ (.tail _ (.tail _ (.tail _ (.tail _ (.tail _ (.head _)))))))))))) (xsc (.tail _ (.tail _ (.tail _ (.tail _ (.head _))))) (xsc (.tail _ (.tail _ (.tail _ (.head _)))) (xsc (.tail _ (.tail _ (.head _))) (xsc (.tail _ (.head _)) (xsc (.head _) xsn)))))))))))) (show ([11, 10, 9, 8, 7, 0, 1, 2, 3, 4, 5, 6] : List Nat).Nodup from by decide) (k_f_Law_areRung_151 O f d (f_Law_areRung_114 O f n) ih f v0 v1 v2 v3 v4 v5 v6 x1 (1 + x2) x3 0 0 M3)
def f_Law_areRung_83 (O : Nat → Option va_E) (f : Nat) (K37 : Nat → Nat → Int → Int → Nat → Nat → Int → xM → Option (Int × xM)) (v0 : Nat) (v1 : Nat) (v2 : Int) (v3 : Int) (v4 : Nat) (v5 : Nat) (v6 : Int) (s0 : Nat) (s1 : Int) (s2 : Int) (M : xM) : Option (Int × xM) :=
  (wJ M s0 s1 s2).bind fun M1 =>
  (aJ O M1 v4 v6).bind fun x1 =>
  (aJ O M1 v5 v6).bind fun x2 =>
  (isO O M1 v0 12).bind fun _ =>
  xcl (f_Calendarhall_remind O f v0 x1 x2 M1) fun x3 M2 =>
  if yw x3 = yw v6 then (
    K37 v0 v1 v2 v3 v4 v5 (v6 + 1) M2
  ) else
  some (0, M2)
set_option maxRecDepth 20000 in
theorem k_f_Law_areRung_83 (O : Nat → Option va_E) (f d : Nat) (K37 : Nat → Nat → Int → Int → Nat → Nat → Int → xM → Option (Int × xM)) (hK37 : ∀ (v0 : Nat) (v1 : Nat) (v2 : Int) (v3 : Int) (v4 : Nat) (v5 : Nat) (v6 : Int) M, xZ oJ O (d + 9) 220 37 [(0, .ref v0), (1, .ref v1), (2, .int (yw v2)), (3, .int (yw v3)), (4, .ref v4), (5, .ref v5), (6, .int (yw v6))] [] M (K37 v0 v1 v2 v3 v4 v5 v6 M)) (v0 : Nat) (v1 : Nat) (v2 : Int) (v3 : Int) (v4 : Nat) (v5 : Nat) (v6 : Int) (s0 : Nat) (s1 : Int) (s2 : Int) (M : xM) : xZ oJ O (d + 9) 220 83 [(0, .ref v0), (1, .ref v1), (2, .int (yw v2)), (3, .int (yw v3)), (4, .ref v4), (5, .ref v5), (6, .int (yw v6))] [.int (yw s2), .int (yw s1), .ref s0] M (f_Law_areRung_83 O f K37 v0 v1 v2 v3 v4 v5 v6 s0 s1 s2 M) := by
  unfold f_Law_areRung_83
  refine xZ.k_wJ (me := xm220) hP_220 rfl (fun M1 => ?_)
  refine xZ.adv (me := xm220) hP_220 3 (pc' := 89) (lv' := [(0, .ref v0), (1, .ref v1), (2, .int (yw v2)), (3, .int (yw v3)), (4, .ref v4), (5, .ref v5), (6, .int (yw v6))]) (st' := [.int (yw v6), .ref v4, .ref v0]) rfl ?_
  refine xZ.k_aJ (me := xm220) hP_220 rfl (fun x1 => ?_)
  refine xZ.adv (me := xm220) hP_220 2 (pc' := 94) (lv' := [(0, .ref v0), (1, .ref v1), (2, .int (yw v2)), (3, .int (yw v3)), (4, .ref v4), (5, .ref v5), (6, .int (yw v6))]) (st' := [.int (yw v6), .ref v5, .int (yw x1), .ref v0]) rfl ?_
  refine xZ.k_aJ (me := xm220) hP_220 rfl (fun x2 => ?_)
  refine xZ.callv (κ := oJ) (av := [.int (yw x1), .int (yw x2)]) (rest := []) (st' := fun x3 => [.int (yw x3)]) (k0 := v0) (me := xm220) hP_220 rfl (Or.inl rfl) ⟨rfl, by decide⟩ rfl rfl (Nat.le_of_ble_eq_true rfl) (by decide) hP_221 (Nat.le_of_ble_eq_true rfl) (fun _ => rfl) (k_f_Calendarhall_remind O f (d + 3) v0 x1 x2 M1) (fun x3 M2 => ?_)
  refine xZ.adv (me := xm220) hP_220 1 (pc' := 100) (lv' := [(0, .ref v0), (1, .ref v1), (2, .int (yw v2)), (3, .int (yw v3)), (4, .ref v4), (5, .ref v5), (6, .int (yw v6))]) (st' := [.int (yw v6), .int (yw x3)]) rfl ?_
  refine xZ.jc_eq (me := xm220) hP_220 rfl (fun h1 => ?_) (fun h1 => ?_)
  · skip
    refine xZ.adv (me := xm220) hP_220 2 (pc' := 37) (lv' := [(6, .int ((yw v6) + (1 : Int32))), (0, .ref v0), (1, .ref v1), (2, .int (yw v2)), (3, .int (yw v3)), (4, .ref v4), (5, .ref v5)]) (st' := []) rfl ?_
    refine xZ.eqs (lv2 := [(6, .int (yw (v6 + 1))), (0, .ref v0), (1, .ref v1), (2, .int (yw v2)), (3, .int (yw v3)), (4, .ref v4), (5, .ref v5)]) (st2 := []) (by simp only [yl_lit, yL_lit, yw_add, yw_sub, yw_mul, yw_neg, yl_add, yl_sub, yl_mul, cj_and, cj_or, cj_xor, cj_shl, cj_shr, cj_ushr, cj_div, cj_i2c, cj_i2b, cj_dc, ck_and, ck_or, ck_xor, ck_shl, ck_shr, ck_ushr, ck_i2l, ck_l2i, ck_cmp]) rfl ?_
    exact xZ.sub (xsc (.tail _ (.head _)) (xsc (.tail _ (.tail _ (.head _))) (xsc (.tail _ (.tail _ (.tail _ (.head _)))) (xsc (.tail _ (.tail _ (.tail _ (.tail _ (.head _))))) (xsc (.tail _ (.tail _ (.tail _ (.tail _ (.tail _ (.head _)))))) (xsc (.tail _ (.tail _ (.tail _ (.tail _ (.tail _ (.tail _ (.head _))))))) (xsc (.head _) xsn))))))) (show ([6, 0, 1, 2, 3, 4, 5] : List Nat).Nodup from by decide) (hK37 v0 v1 v2 v3 v4 v5 (v6 + 1) M2)
  · skip
    refine xZ.adv (me := xm220) hP_220 1 (pc' := 104) (lv' := [(0, .ref v0), (1, .ref v1), (2, .int (yw v2)), (3, .int (yw v3)), (4, .ref v4), (5, .ref v5), (6, .int (yw v6))]) (st' := [.int (0 : Int32)]) rfl ?_
    refine xZ.eqs (lv2 := [(0, .ref v0), (1, .ref v1), (2, .int (yw v2)), (3, .int (yw v3)), (4, .ref v4), (5, .ref v5), (6, .int (yw v6))]) (st2 := [.int (yw 0)]) rfl (by simp only [yl_lit, yL_lit, yw_add, yw_sub, yw_mul, yw_neg, yl_add, yl_sub, yl_mul, cj_and, cj_or, cj_xor, cj_shl, cj_shr, cj_ushr, cj_div, cj_i2c, cj_i2b, cj_dc, ck_and, ck_or, ck_xor, ck_shl, ck_shr, ck_ushr, ck_i2l, ck_l2i, ck_cmp]) ?_
    exact xZ.jrete (me := xm220) hP_220 rfl rfl rfl
def f_Law_areRung_37 (O : Nat → Option va_E) (f : Nat) : Nat → Nat → Nat → Int → Int → Nat → Nat → Int → xM → Option (Int × xM)
  | 0, _, _, _, _, _, _, _, _ => none
  | n + 1, v0, v1, v2, v3, v4, v5, v6, M =>
    if yw v3 ≤ yw v6 then (
      f_Law_areRung_114 O f f v0 v1 v2 v3 v4 v5 0 M
    ) else
    (isO O M v1 15).bind fun _ =>
    xcl (f_LDraw_n O f v1 v2 M) fun x1 M1 =>
    (wJ M1 v4 v6 x1).bind fun M2 =>
    (isO O M2 v1 15).bind fun _ =>
    xcl (f_LDraw_is O f v1 3 M2) fun x2 M3 =>
    if yw x2 = yw 0 then (
      (isO O M3 v1 15).bind fun _ =>
      xcl (f_LDraw_n O f v1 13 M3) fun x3 M4 =>
      f_Law_areRung_83 O f (f_Law_areRung_37 O f n) v0 v1 v2 v3 v4 v5 v6 v5 v6 (5 * x3) M4
    ) else
    (isO O M3 v1 15).bind fun _ =>
    xcl (f_LDraw_n O f v1 1441 M3) fun x4 M5 =>
    f_Law_areRung_83 O f (f_Law_areRung_37 O f n) v0 v1 v2 v3 v4 v5 v6 v5 v6 x4 M5
set_option maxRecDepth 20000 in
theorem k_f_Law_areRung_37 (O : Nat → Option va_E) (f d : Nat) : ∀ (n : Nat) (v0 : Nat) (v1 : Nat) (v2 : Int) (v3 : Int) (v4 : Nat) (v5 : Nat) (v6 : Int) (M : xM), xZ oJ O (d + 9) 220 37 [(0, .ref v0), (1, .ref v1), (2, .int (yw v2)), (3, .int (yw v3)), (4, .ref v4), (5, .ref v5), (6, .int (yw v6))] [] M (f_Law_areRung_37 O f n v0 v1 v2 v3 v4 v5 v6 M) := by
  intro n
  induction n with
  | zero =>
    intro v0 v1 v2 v3 v4 v5 v6 M
    exact xZ.no
  | succ n ih =>
    intro v0 v1 v2 v3 v4 v5 v6 M
    unfold f_Law_areRung_37
    refine xZ.adv (me := xm220) hP_220 2 (pc' := 40) (lv' := [(0, .ref v0), (1, .ref v1), (2, .int (yw v2)), (3, .int (yw v3)), (4, .ref v4), (5, .ref v5), (6, .int (yw v6))]) (st' := [.int (yw v3), .int (yw v6)]) rfl ?_
    refine xZ.jc_ge (me := xm220) hP_220 rfl (fun h1 => ?_) (fun h1 => ?_)
    · skip
      refine xZ.adv (me := xm220) hP_220 2 (pc' := 114) (lv' := [(6, .int (0 : Int32)), (0, .ref v0), (1, .ref v1), (2, .int (yw v2)), (3, .int (yw v3)), (4, .ref v4), (5, .ref v5)]) (st' := []) rfl ?_
      refine xZ.eqs (lv2 := [(6, .int (yw 0)), (0, .ref v0), (1, .ref v1), (2, .int (yw v2)), (3, .int (yw v3)), (4, .ref v4), (5, .ref v5)]) (st2 := []) (by simp only [yl_lit, yL_lit, yw_add, yw_sub, yw_mul, yw_neg, yl_add, yl_sub, yl_mul, cj_and, cj_or, cj_xor, cj_shl, cj_shr, cj_ushr, cj_div, cj_i2c, cj_i2b, cj_dc, ck_and, ck_or, ck_xor, ck_shl, ck_shr, ck_ushr, ck_i2l, ck_l2i, ck_cmp]) rfl ?_
      exact xZ.sub (xsc (.tail _ (.head _)) (xsc (.tail _ (.tail _ (.head _))) (xsc (.tail _ (.tail _ (.tail _ (.head _)))) (xsc (.tail _ (.tail _ (.tail _ (.tail _ (.head _))))) (xsc (.tail _ (.tail _ (.tail _ (.tail _ (.tail _ (.head _)))))) (xsc (.tail _ (.tail _ (.tail _ (.tail _ (.tail _ (.tail _ (.head _))))))) (xsc (.head _) xsn))))))) (show ([6, 0, 1, 2, 3, 4, 5] : List Nat).Nodup from by decide) (k_f_Law_areRung_114 O f d f v0 v1 v2 v3 v4 v5 0 M)
    · skip
      refine xZ.adv (me := xm220) hP_220 4 (pc' := 49) (lv' := [(0, .ref v0), (1, .ref v1), (2, .int (yw v2)), (3, .int (yw v3)), (4, .ref v4), (5, .ref v5), (6, .int (yw v6))]) (st' := [.int (yw v2), .ref v1, .int (yw v6), .ref v4]) rfl ?_
      refine xZ.callv (κ := oJ) (av := [.int (yw v2)]) (rest := [.int (yw v6), .ref v4]) (st' := fun x1 => [.int (yw x1), .int (yw v6), .ref v4]) (k0 := v1) (me := xm220) hP_220 rfl (Or.inl rfl) ⟨rfl, by decide⟩ rfl rfl (Nat.le_of_ble_eq_true rfl) (by decide) hP_12 (Nat.le_of_ble_eq_true rfl) (fun _ => rfl) (k_f_LDraw_n O f (d + 8) v1 v2 M) (fun x1 M1 => ?_)
      refine xZ.k_wJ (me := xm220) hP_220 rfl (fun M2 => ?_)
      refine xZ.adv (me := xm220) hP_220 4 (pc' := 59) (lv' := [(0, .ref v0), (1, .ref v1), (2, .int (yw v2)), (3, .int (yw v3)), (4, .ref v4), (5, .ref v5), (6, .int (yw v6))]) (st' := [.int (3 : Int32), .ref v1, .int (yw v6), .ref v5]) rfl ?_
      refine xZ.eqs (lv2 := [(0, .ref v0), (1, .ref v1), (2, .int (yw v2)), (3, .int (yw v3)), (4, .ref v4), (5, .ref v5), (6, .int (yw v6))]) (st2 := [.int (yw 3), .ref v1, .int (yw v6), .ref v5]) rfl (by simp only [yl_lit, yL_lit, yw_add, yw_sub, yw_mul, yw_neg, yl_add, yl_sub, yl_mul, cj_and, cj_or, cj_xor, cj_shl, cj_shr, cj_ushr, cj_div, cj_i2c, cj_i2b, cj_dc, ck_and, ck_or, ck_xor, ck_shl, ck_shr, ck_ushr, ck_i2l, ck_l2i, ck_cmp]) ?_
      refine xZ.callv (κ := oJ) (av := [.int (yw 3)]) (rest := [.int (yw v6), .ref v5]) (st' := fun x2 => [.int (yw x2), .int (yw v6), .ref v5]) (k0 := v1) (me := xm220) hP_220 rfl (Or.inl rfl) ⟨rfl, by decide⟩ rfl rfl (Nat.le_of_ble_eq_true rfl) (by decide) hP_18 (Nat.le_of_ble_eq_true rfl) (fun _ => rfl) (k_f_LDraw_is O f (d + 7) v1 3 M2) (fun x2 M3 => ?_)
      refine xZ.jf_eq (me := xm220) hP_220 rfl (fun h2 => ?_) (fun h2 => ?_)
      · skip
        refine xZ.adv (me := xm220) hP_220 3 (pc' := 79) (lv' := [(0, .ref v0), (1, .ref v1), (2, .int (yw v2)), (3, .int (yw v3)), (4, .ref v4), (5, .ref v5), (6, .int (yw v6))]) (st' := [.int (13 : Int32), .ref v1, .int (5 : Int32), .int (yw v6), .ref v5]) rfl ?_
        refine xZ.eqs (lv2 := [(0, .ref v0), (1, .ref v1), (2, .int (yw v2)), (3, .int (yw v3)), (4, .ref v4), (5, .ref v5), (6, .int (yw v6))]) (st2 := [.int (yw 13), .ref v1, .int (yw 5), .int (yw v6), .ref v5]) rfl (by simp only [yl_lit, yL_lit, yw_add, yw_sub, yw_mul, yw_neg, yl_add, yl_sub, yl_mul, cj_and, cj_or, cj_xor, cj_shl, cj_shr, cj_ushr, cj_div, cj_i2c, cj_i2b, cj_dc, ck_and, ck_or, ck_xor, ck_shl, ck_shr, ck_ushr, ck_i2l, ck_l2i, ck_cmp]) ?_
        refine xZ.callv (κ := oJ) (av := [.int (yw 13)]) (rest := [.int (yw 5), .int (yw v6), .ref v5]) (st' := fun x3 => [.int (yw x3), .int (yw 5), .int (yw v6), .ref v5]) (k0 := v1) (me := xm220) hP_220 rfl (Or.inl rfl) ⟨rfl, by decide⟩ rfl rfl (Nat.le_of_ble_eq_true rfl) (by decide) hP_12 (Nat.le_of_ble_eq_true rfl) (fun _ => rfl) (k_f_LDraw_n O f (d + 8) v1 13 M3) (fun x3 M4 => ?_)
        refine xZ.adv (me := xm220) hP_220 1 (pc' := 83) (lv' := [(0, .ref v0), (1, .ref v1), (2, .int (yw v2)), (3, .int (yw v3)), (4, .ref v4), (5, .ref v5), (6, .int (yw v6))]) (st' := [.int ((yw 5) * (yw x3)), .int (yw v6), .ref v5]) rfl ?_
        refine xZ.eqs (lv2 := [(0, .ref v0), (1, .ref v1), (2, .int (yw v2)), (3, .int (yw v3)), (4, .ref v4), (5, .ref v5), (6, .int (yw v6))]) (st2 := [.int (yw (5 * x3)), .int (yw v6), .ref v5]) rfl (by simp only [yl_lit, yL_lit, yw_add, yw_sub, yw_mul, yw_neg, yl_add, yl_sub, yl_mul, cj_and, cj_or, cj_xor, cj_shl, cj_shr, cj_ushr, cj_div, cj_i2c, cj_i2b, cj_dc, ck_and, ck_or, ck_xor, ck_shl, ck_shr, ck_ushr, ck_i2l, ck_l2i, ck_cmp]) ?_
        exact (k_f_Law_areRung_83 O f d (f_Law_areRung_37 O f n) ih v0 v1 v2 v3 v4 v5 v6 v5 v6 (5 * x3) M4)
      · skip
        refine xZ.adv (me := xm220) hP_220 2 (pc' := 69) (lv' := [(0, .ref v0), (1, .ref v1), (2, .int (yw v2)), (3, .int (yw v3)), (4, .ref v4), (5, .ref v5), (6, .int (yw v6))]) (st' := [.int (1441 : Int32), .ref v1, .int (yw v6), .ref v5]) rfl ?_
        refine xZ.eqs (lv2 := [(0, .ref v0), (1, .ref v1), (2, .int (yw v2)), (3, .int (yw v3)), (4, .ref v4), (5, .ref v5), (6, .int (yw v6))]) (st2 := [.int (yw 1441), .ref v1, .int (yw v6), .ref v5]) rfl (by simp only [yl_lit, yL_lit, yw_add, yw_sub, yw_mul, yw_neg, yl_add, yl_sub, yl_mul, cj_and, cj_or, cj_xor, cj_shl, cj_shr, cj_ushr, cj_div, cj_i2c, cj_i2b, cj_dc, ck_and, ck_or, ck_xor, ck_shl, ck_shr, ck_ushr, ck_i2l, ck_l2i, ck_cmp]) ?_
        refine xZ.callv (κ := oJ) (av := [.int (yw 1441)]) (rest := [.int (yw v6), .ref v5]) (st' := fun x4 => [.int (yw x4), .int (yw v6), .ref v5]) (k0 := v1) (me := xm220) hP_220 rfl (Or.inl rfl) ⟨rfl, by decide⟩ rfl rfl (Nat.le_of_ble_eq_true rfl) (by decide) hP_12 (Nat.le_of_ble_eq_true rfl) (fun _ => rfl) (k_f_LDraw_n O f (d + 8) v1 1441 M3) (fun x4 M5 => ?_)
        refine xZ.adv (me := xm220) hP_220 1 (pc' := 83) (lv' := [(0, .ref v0), (1, .ref v1), (2, .int (yw v2)), (3, .int (yw v3)), (4, .ref v4), (5, .ref v5), (6, .int (yw v6))]) (st' := [.int (yw x4), .int (yw v6), .ref v5]) rfl ?_
        exact (k_f_Law_areRung_83 O f d (f_Law_areRung_37 O f n) ih v0 v1 v2 v3 v4 v5 v6 v5 v6 x4 M5)
def f_Law_areRung (O : Nat → Option va_E) (f : Nat) (v0 : Nat) (v1 : Nat) (M : xM) : Option (Int × xM) :=
  (isO O M v1 15).bind fun _ =>
  xcl (f_LDraw_n O f v1 4 M) fun x1 M1 =>
  xcl (f_Law_series O f v0 v1 (1 + x1) 2 11 M1) fun x2 M2 =>
  (isO O M2 v1 15).bind fun _ =>
  xcl (f_LDraw_n O f v1 5 M2) fun x3 M3 =>
  xcl (nAJ M3 0 (1 + x3)) fun x4 M4 =>
  xcl (nAJ M4 0 (1 + x3)) fun x5 M5 =>
  f_Law_areRung_37 O f f v0 v1 x2 (1 + x3) x4 x5 0 M5
set_option maxRecDepth 20000 in
theorem k_f_Law_areRung (O : Nat → Option va_E) (f d : Nat) (v0 : Nat) (v1 : Nat) (M : xM) : xZ oJ O (d + 9) 220 0 [(0, .ref v0), (1, .ref v1)] [] M (f_Law_areRung O f v0 v1 M) := by
  unfold f_Law_areRung
  refine xZ.adv (me := xm220) hP_220 5 (pc' := 5) (lv' := [(0, .ref v0), (1, .ref v1)]) (st' := [.int (4 : Int32), .ref v1, .int (1 : Int32), .ref v1, .ref v0]) rfl ?_
  refine xZ.eqs (lv2 := [(0, .ref v0), (1, .ref v1)]) (st2 := [.int (yw 4), .ref v1, .int (yw 1), .ref v1, .ref v0]) rfl (by simp only [yl_lit, yL_lit, yw_add, yw_sub, yw_mul, yw_neg, yl_add, yl_sub, yl_mul, cj_and, cj_or, cj_xor, cj_shl, cj_shr, cj_ushr, cj_div, cj_i2c, cj_i2b, cj_dc, ck_and, ck_or, ck_xor, ck_shl, ck_shr, ck_ushr, ck_i2l, ck_l2i, ck_cmp]) ?_
  refine xZ.callv (κ := oJ) (av := [.int (yw 4)]) (rest := [.int (yw 1), .ref v1, .ref v0]) (st' := fun x1 => [.int (yw x1), .int (yw 1), .ref v1, .ref v0]) (k0 := v1) (me := xm220) hP_220 rfl (Or.inl rfl) ⟨rfl, by decide⟩ rfl rfl (Nat.le_of_ble_eq_true rfl) (by decide) hP_12 (Nat.le_of_ble_eq_true rfl) (fun _ => rfl) (k_f_LDraw_n O f (d + 8) v1 4 M) (fun x1 M1 => ?_)
  refine xZ.adv (me := xm220) hP_220 3 (pc' := 12) (lv' := [(0, .ref v0), (1, .ref v1)]) (st' := [.int (11 : Int32), .int (2 : Int32), .int ((yw 1) + (yw x1)), .ref v1, .ref v0]) rfl ?_
  refine xZ.eqs (lv2 := [(0, .ref v0), (1, .ref v1)]) (st2 := [.int (yw 11), .int (yw 2), .int (yw (1 + x1)), .ref v1, .ref v0]) rfl (by simp only [yl_lit, yL_lit, yw_add, yw_sub, yw_mul, yw_neg, yl_add, yl_sub, yl_mul, cj_and, cj_or, cj_xor, cj_shl, cj_shr, cj_ushr, cj_div, cj_i2c, cj_i2b, cj_dc, ck_and, ck_or, ck_xor, ck_shl, ck_shr, ck_ushr, ck_i2l, ck_l2i, ck_cmp]) ?_
  refine xZ.calls (κ := oJ) (av := [.ref v0, .ref v1, .int (yw (1 + x1)), .int (yw 2), .int (yw 11)]) (rest := []) (st' := fun x2 => [.int (yw x2)]) (me := xm220) hP_220 rfl rfl rfl (Nat.le_of_ble_eq_true rfl) (by decide) hP_146 (Nat.le_of_ble_eq_true rfl) (fun _ => rfl) (k_f_Law_series O f (d + 0) v0 v1 (1 + x1) 2 11 M1) (fun x2 M2 => ?_)
  refine xZ.adv (me := xm220) hP_220 4 (pc' := 19) (lv' := [(2, .int (yw x2)), (0, .ref v0), (1, .ref v1)]) (st' := [.int (5 : Int32), .ref v1, .int (1 : Int32)]) rfl ?_
  refine xZ.eqs (lv2 := [(2, .int (yw x2)), (0, .ref v0), (1, .ref v1)]) (st2 := [.int (yw 5), .ref v1, .int (yw 1)]) rfl (by simp only [yl_lit, yL_lit, yw_add, yw_sub, yw_mul, yw_neg, yl_add, yl_sub, yl_mul, cj_and, cj_or, cj_xor, cj_shl, cj_shr, cj_ushr, cj_div, cj_i2c, cj_i2b, cj_dc, ck_and, ck_or, ck_xor, ck_shl, ck_shr, ck_ushr, ck_i2l, ck_l2i, ck_cmp]) ?_
  refine xZ.callv (κ := oJ) (av := [.int (yw 5)]) (rest := [.int (yw 1)]) (st' := fun x3 => [.int (yw x3), .int (yw 1)]) (k0 := v1) (me := xm220) hP_220 rfl (Or.inl rfl) ⟨rfl, by decide⟩ rfl rfl (Nat.le_of_ble_eq_true rfl) (by decide) hP_12 (Nat.le_of_ble_eq_true rfl) (fun _ => rfl) (k_f_LDraw_n O f (d + 8) v1 5 M2) (fun x3 M3 => ?_)
  refine xZ.adv (me := xm220) hP_220 3 (pc' := 25) (lv' := [(3, .int ((yw 1) + (yw x3))), (2, .int (yw x2)), (0, .ref v0), (1, .ref v1)]) (st' := [.int ((yw 1) + (yw x3))]) rfl ?_
  refine xZ.eqs (lv2 := [(3, .int (yw (1 + x3))), (2, .int (yw x2)), (0, .ref v0), (1, .ref v1)]) (st2 := [.int (yw (1 + x3))]) (by simp only [yl_lit, yL_lit, yw_add, yw_sub, yw_mul, yw_neg, yl_add, yl_sub, yl_mul, cj_and, cj_or, cj_xor, cj_shl, cj_shr, cj_ushr, cj_div, cj_i2c, cj_i2b, cj_dc, ck_and, ck_or, ck_xor, ck_shl, ck_shr, ck_ushr, ck_i2l, ck_l2i, ck_cmp]) (by simp only [yl_lit, yL_lit, yw_add, yw_sub, yw_mul, yw_neg, yl_add, yl_sub, yl_mul, cj_and, cj_or, cj_xor, cj_shl, cj_shr, cj_ushr, cj_div, cj_i2c, cj_i2b, cj_dc, ck_and, ck_or, ck_xor, ck_shl, ck_shr, ck_ushr, ck_i2l, ck_l2i, ck_cmp]) ?_
  refine xZ.k_nAJ (me := xm220) hP_220 rfl rfl (by decide) (fun x4 M4 => ?_)
  refine xZ.adv (me := xm220) hP_220 2 (pc' := 30) (lv' := [(4, .ref x4), (3, .int (yw (1 + x3))), (2, .int (yw x2)), (0, .ref v0), (1, .ref v1)]) (st' := [.int (yw (1 + x3))]) rfl ?_
  refine xZ.k_nAJ (me := xm220) hP_220 rfl rfl (by decide) (fun x5 M5 => ?_)
  refine xZ.adv (me := xm220) hP_220 3 (pc' := 37) (lv' := [(6, .int (0 : Int32)), (5, .ref x5), (4, .ref x4), (3, .int (yw (1 + x3))), (2, .int (yw x2)), (0, .ref v0), (1, .ref v1)]) (st' := []) rfl ?_
  refine xZ.eqs (lv2 := [(6, .int (yw 0)), (5, .ref x5), (4, .ref x4), (3, .int (yw (1 + x3))), (2, .int (yw x2)), (0, .ref v0), (1, .ref v1)]) (st2 := []) (by simp only [yl_lit, yL_lit, yw_add, yw_sub, yw_mul, yw_neg, yl_add, yl_sub, yl_mul, cj_and, cj_or, cj_xor, cj_shl, cj_shr, cj_ushr, cj_div, cj_i2c, cj_i2b, cj_dc, ck_and, ck_or, ck_xor, ck_shl, ck_shr, ck_ushr, ck_i2l, ck_l2i, ck_cmp]) rfl ?_
  exact xZ.sub (xsc (.tail _ (.tail _ (.tail _ (.tail _ (.tail _ (.head _)))))) (xsc (.tail _ (.tail _ (.tail _ (.tail _ (.tail _ (.tail _ (.head _))))))) (xsc (.tail _ (.tail _ (.tail _ (.tail _ (.head _))))) (xsc (.tail _ (.tail _ (.tail _ (.head _)))) (xsc (.tail _ (.tail _ (.head _))) (xsc (.tail _ (.head _)) (xsc (.head _) xsn))))))) (show ([6, 5, 4, 3, 2, 0, 1] : List Nat).Nodup from by decide) (k_f_Law_areRung_37 O f d f v0 v1 x2 (1 + x3) x4 x5 0 M5)
