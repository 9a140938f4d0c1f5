/-! ===== texts ===== -/
def f_Zone_switchMonth (O : Nat → Option va_E) (f : Nat) (v0 : Nat) (v1 : Int) (M : xM) : Option (Int × xM) :=
  if yw v1 = yw 0 then (
    (gR O M v0 11 3).bind fun x1 =>
    (aJ O M x1 0).bind fun x2 =>
    some (x2, M)
  ) else
  (gR O M v0 11 2).bind fun x3 =>
  (aJ O M x3 0).bind fun x4 =>
  some (x4, M)
set_option maxRecDepth 20000 in
theorem k_f_Zone_switchMonth (O : Nat → Option va_E) (f d : Nat) (v0 : Nat) (v1 : Int) (M : xM) : xZ oJ O (d + 0) 141 0 [(0, .ref v0), (1, .int (yw v1))] [] M (f_Zone_switchMonth O f v0 v1 M) := by
  unfold f_Zone_switchMonth
  refine xZ.adv (me := xm141) hP_141 1 (pc' := 1) (lv' := [(0, .ref v0), (1, .int (yw v1))]) (st' := [.int (yw v1)]) rfl ?_
  refine xZ.jf_eq (me := xm141) hP_141 rfl (fun h1 => ?_) (fun h1 => ?_)
  · skip
    refine xZ.adv (me := xm141) hP_141 1 (pc' := 14) (lv' := [(0, .ref v0), (1, .int (yw v1))]) (st' := [.ref v0]) rfl ?_
    refine xZ.k_gR (me := xm141) hP_141 rfl (fun x1 => ?_)
    refine xZ.adv (me := xm141) hP_141 1 (pc' := 18) (lv' := [(0, .ref v0), (1, .int (yw v1))]) (st' := [.int (0 : Int32), .ref x1]) rfl ?_
    refine xZ.eqs (lv2 := [(0, .ref v0), (1, .int (yw v1))]) (st2 := [.int (yw 0), .ref x1]) rfl (by simp only [yl_lit, yL_lit, yw_add, yw_sub, yw_mul, yw_neg, yl_add, yl_sub, yl_mul, cj_and, cj_or, cj_xor, cj_shl, cj_shr, cj_ushr, cj_div, cj_i2c, cj_i2b, cj_dc, ck_and, ck_or, ck_xor, ck_shl, ck_shr, ck_ushr, ck_i2l, ck_l2i, ck_cmp]) ?_
    refine xZ.k_aJ (me := xm141) hP_141 rfl (fun x2 => ?_)
    exact xZ.jreti (me := xm141) hP_141 rfl rfl
  · skip
    refine xZ.adv (me := xm141) hP_141 1 (pc' := 5) (lv' := [(0, .ref v0), (1, .int (yw v1))]) (st' := [.ref v0]) rfl ?_
    refine xZ.k_gR (me := xm141) hP_141 rfl (fun x3 => ?_)
    refine xZ.adv (me := xm141) hP_141 1 (pc' := 9) (lv' := [(0, .ref v0), (1, .int (yw v1))]) (st' := [.int (0 : Int32), .ref x3]) rfl ?_
    refine xZ.eqs (lv2 := [(0, .ref v0), (1, .int (yw v1))]) (st2 := [.int (yw 0), .ref x3]) rfl (by simp only [yl_lit, yL_lit, yw_add, yw_sub, yw_mul, yw_neg, yl_add, yl_sub, yl_mul, cj_and, cj_or, cj_xor, cj_shl, cj_shr, cj_ushr, cj_div, cj_i2c, cj_i2b, cj_dc, ck_and, ck_or, ck_xor, ck_shl, ck_shr, ck_ushr, ck_i2l, ck_l2i, ck_cmp]) ?_
    refine xZ.k_aJ (me := xm141) hP_141 rfl (fun x4 => ?_)
    refine xZ.adv (me := xm141) hP_141 1 (pc' := 19) (lv' := [(0, .ref v0), (1, .int (yw v1))]) (st' := [.int (yw x4)]) rfl ?_
    exact xZ.jreti (me := xm141) hP_141 rfl rfl
def f_Zone_putSwitch_15 (O : Nat → Option va_E) (f : Nat) (v2 : Int) (v3 : Int) (v4 : Int) (v5 : Int) (s0 : Nat) (M : xM) : Option (Unit × xM) :=
  (wJ M s0 0 v2).bind fun M1 =>
  (wJ M1 s0 1 v3).bind fun M2 =>
  (wJ M2 s0 2 v4).bind fun M3 =>
  (wJ M3 s0 3 v5).bind fun M4 =>
  some ((), M4)
set_option maxRecDepth 20000 in
theorem k_f_Zone_putSwitch_15 (O : Nat → Option va_E) (f d : Nat) (v2 : Int) (v3 : Int) (v4 : Int) (v5 : Int) (s0 : Nat) (M : xM) : xZ oU O (d + 0) 142 15 [(2, .int (yw v2)), (3, .int (yw v3)), (4, .int (yw v4)), (5, .int (yw v5))] [.ref s0] M (f_Zone_putSwitch_15 O f v2 v3 v4 v5 s0 M) := by
  unfold f_Zone_putSwitch_15
  refine xZ.adv (me := xm142) hP_142 4 (pc' := 21) (lv' := [(6, .ref s0), (2, .int (yw v2)), (3, .int (yw v3)), (4, .int (yw v4)), (5, .int (yw v5))]) (st' := [.int (yw v2), .int (0 : Int32), .ref s0]) rfl ?_
  refine xZ.eqs (lv2 := [(6, .ref s0), (2, .int (yw v2)), (3, .int (yw v3)), (4, .int (yw v4)), (5, .int (yw v5))]) (st2 := [.int (yw v2), .int (yw 0), .ref s0]) rfl (by simp only [yl_lit, yL_lit, yw_add, yw_sub, yw_mul, yw_neg, yl_add, yl_sub, yl_mul, cj_and, cj_or, cj_xor, cj_shl, cj_shr, cj_ushr, cj_div, cj_i2c, cj_i2b, cj_dc, ck_and, ck_or, ck_xor, ck_shl, ck_shr, ck_ushr, ck_i2l, ck_l2i, ck_cmp]) ?_
  refine xZ.k_wJ (me := xm142) hP_142 rfl (fun M1 => ?_)
  refine xZ.adv (me := xm142) hP_142 3 (pc' := 26) (lv' := [(6, .ref s0), (2, .int (yw v2)), (3, .int (yw v3)), (4, .int (yw v4)), (5, .int (yw v5))]) (st' := [.int (yw v3), .int (1 : Int32), .ref s0]) rfl ?_
  refine xZ.eqs (lv2 := [(6, .ref s0), (2, .int (yw v2)), (3, .int (yw v3)), (4, .int (yw v4)), (5, .int (yw v5))]) (st2 := [.int (yw v3), .int (yw 1), .ref s0]) rfl (by simp only [yl_lit, yL_lit, yw_add, yw_sub, yw_mul, yw_neg, yl_add, yl_sub, yl_mul, cj_and, cj_or, cj_xor, cj_shl, cj_shr, cj_ushr, cj_div, cj_i2c, cj_i2b, cj_dc, ck_and, ck_or, ck_xor, ck_shl, ck_shr, ck_ushr, ck_i2l, ck_l2i, ck_cmp]) ?_
  refine xZ.k_wJ (me := xm142) hP_142 rfl (fun M2 => ?_)
  refine xZ.adv (me := xm142) hP_142 3 (pc' := 32) (lv' := [(6, .ref s0), (2, .int (yw v2)), (3, .int (yw v3)), (4, .int (yw v4)), (5, .int (yw v5))]) (st' := [.int (yw v4), .int (2 : Int32), .ref s0]) rfl ?_
  refine xZ.eqs (lv2 := [(6, .ref s0), (2, .int (yw v2)), (3, .int (yw v3)), (4, .int (yw v4)), (5, .int (yw v5))]) (st2 := [.int (yw v4), .int (yw 2), .ref s0]) rfl (by simp only [yl_lit, yL_lit, yw_add, yw_sub, yw_mul, yw_neg, yl_add, yl_sub, yl_mul, cj_and, cj_or, cj_xor, cj_shl, cj_shr, cj_ushr, cj_div, cj_i2c, cj_i2b, cj_dc, ck_and, ck_or, ck_xor, ck_shl, ck_shr, ck_ushr, ck_i2l, ck_l2i, ck_cmp]) ?_
  refine xZ.k_wJ (me := xm142) hP_142 rfl (fun M3 => ?_)
  refine xZ.adv (me := xm142) hP_142 3 (pc' := 38) (lv' := [(6, .ref s0), (2, .int (yw v2)), (3, .int (yw v3)), (4, .int (yw v4)), (5, .int (yw v5))]) (st' := [.int (yw v5), .int (3 : Int32), .ref s0]) rfl ?_
  refine xZ.eqs (lv2 := [(6, .ref s0), (2, .int (yw v2)), (3, .int (yw v3)), (4, .int (yw v4)), (5, .int (yw v5))]) (st2 := [.int (yw v5), .int (yw 3), .ref s0]) rfl (by simp only [yl_lit, yL_lit, yw_add, yw_sub, yw_mul, yw_neg, yl_add, yl_sub, yl_mul, cj_and, cj_or, cj_xor, cj_shl, cj_shr, cj_ushr, cj_div, cj_i2c, cj_i2b, cj_dc, ck_and, ck_or, ck_xor, ck_shl, ck_shr, ck_ushr, ck_i2l, ck_l2i, ck_cmp]) ?_
  refine xZ.k_wJ (me := xm142) hP_142 rfl (fun M4 => ?_)
  exact xZ.retu (me := xm142) hP_142 rfl rfl
def f_Zone_putSwitch (O : Nat → Option va_E) (f : Nat) (v0 : Nat) (v1 : Int) (v2 : Int) (v3 : Int) (v4 : Int) (v5 : Int) (M : xM) : Option (Unit × xM) :=
  if yw v1 = yw 0 then (
    (gR O M v0 11 3).bind fun x1 =>
    f_Zone_putSwitch_15 O f v2 v3 v4 v5 x1 M
  ) else
  (gR O M v0 11 2).bind fun x2 =>
  f_Zone_putSwitch_15 O f v2 v3 v4 v5 x2 M
set_option maxRecDepth 20000 in
theorem k_f_Zone_putSwitch (O : Nat → Option va_E) (f d : Nat) (v0 : Nat) (v1 : Int) (v2 : Int) (v3 : Int) (v4 : Int) (v5 : Int) (M : xM) : xZ oU O (d + 0) 142 0 [(0, .ref v0), (1, .int (yw v1)), (2, .int (yw v2)), (3, .int (yw v3)), (4, .int (yw v4)), (5, .int (yw v5))] [] M (f_Zone_putSwitch O f v0 v1 v2 v3 v4 v5 M) := by
  unfold f_Zone_putSwitch
  refine xZ.adv (me := xm142) hP_142 1 (pc' := 1) (lv' := [(0, .ref v0), (1, .int (yw v1)), (2, .int (yw v2)), (3, .int (yw v3)), (4, .int (yw v4)), (5, .int (yw v5))]) (st' := [.int (yw v1)]) rfl ?_
  refine xZ.jf_eq (me := xm142) hP_142 rfl (fun h1 => ?_) (fun h1 => ?_)
  · skip
    refine xZ.adv (me := xm142) hP_142 1 (pc' := 12) (lv' := [(0, .ref v0), (1, .int (yw v1)), (2, .int (yw v2)), (3, .int (yw v3)), (4, .int (yw v4)), (5, .int (yw v5))]) (st' := [.ref v0]) rfl ?_
    refine xZ.k_gR (me := xm142) hP_142 rfl (fun x1 => ?_)
    exact xZ.sub (xsc (.tail _ (.tail _ (.head _))) (xsc (.tail _ (.tail _ (.tail _ (.head _)))) (xsc (.tail _ (.tail _ (.tail _ (.tail _ (.head _))))) (xsc (.tail _ (.tail _ (.tail _ (.tail _ (.tail _ (.head _)))))) xsn)))) (show ([0, 1, 2, 3, 4, 5] : List Nat).Nodup from by decide) (k_f_Zone_putSwitch_15 O f d v2 v3 v4 v5 x1 M)
  · skip
    refine xZ.adv (me := xm142) hP_142 1 (pc' := 5) (lv' := [(0, .ref v0), (1, .int (yw v1)), (2, .int (yw v2)), (3, .int (yw v3)), (4, .int (yw v4)), (5, .int (yw v5))]) (st' := [.ref v0]) rfl ?_
    refine xZ.k_gR (me := xm142) hP_142 rfl (fun x2 => ?_)
    refine xZ.adv (me := xm142) hP_142 1 (pc' := 15) (lv' := [(0, .ref v0), (1, .int (yw v1)), (2, .int (yw v2)), (3, .int (yw v3)), (4, .int (yw v4)), (5, .int (yw v5))]) (st' := [.ref x2]) rfl ?_
    exact xZ.sub (xsc (.tail _ (.tail _ (.head _))) (xsc (.tail _ (.tail _ (.tail _ (.head _)))) (xsc (.tail _ (.tail _ (.tail _ (.tail _ (.head _))))) (xsc (.tail _ (.tail _ (.tail _ (.tail _ (.tail _ (.head _)))))) xsn)))) (show ([0, 1, 2, 3, 4, 5] : List Nat).Nodup from by decide) (k_f_Zone_putSwitch_15 O f d v2 v3 v4 v5 x2 M)
def f_Calendarhall_setSwitch_50 (O : Nat → Option va_E) (f : Nat) (v0 : Nat) (v2 : Int) (v3 : Int) (v4 : Int) (v5 : Int) (v6 : Int) (v7 : Nat) (s0 : Int) (s1 : Nat) (s2 : Int) (M : xM) : Option (Int × xM) :=
  (isO O M s1 11).bind fun _ =>
  xcl (f_Zone_switchMonth O f s1 s2 M) fun x1 M1 =>
  if yw s0 = yw x1 then (
    none
  ) else
  (isO O M1 v7 11).bind fun _ =>
  xcl (f_Zone_switchMonth O f v7 v2 M1) fun x2 M2 =>
  (isO O M2 v0 12).bind fun _ =>
  xcl (f_Calendarhall_saveForUndo O f v0 M2) fun _ M3 =>
  (isO O M3 v7 11).bind fun _ =>
  xcl (f_Zone_putSwitch O f v7 v2 v3 v4 v5 v6 M3) fun _ M4 =>
  some (x2, M4)
set_option maxRecDepth 20000 in
theorem k_f_Calendarhall_setSwitch_50 (O : Nat → Option va_E) (f d : Nat) (v0 : Nat) (v2 : Int) (v3 : Int) (v4 : Int) (v5 : Int) (v6 : Int) (v7 : Nat) (s0 : Int) (s1 : Nat) (s2 : Int) (M : xM) : xZ oJ O (d + 5) 140 50 [(0, .ref v0), (2, .int (yw v2)), (3, .int (yw v3)), (4, .int (yw v4)), (5, .int (yw v5)), (6, .int (yw v6)), (7, .ref v7)] [.int (yw s2), .ref s1, .int (yw s0)] M (f_Calendarhall_setSwitch_50 O f v0 v2 v3 v4 v5 v6 v7 s0 s1 s2 M) := by
  unfold f_Calendarhall_setSwitch_50
  refine xZ.callv (κ := oJ) (av := [.int (yw s2)]) (rest := [.int (yw s0)]) (st' := fun x1 => [.int (yw x1), .int (yw s0)]) (k0 := s1) (me := xm140) hP_140 rfl (Or.inl rfl) ⟨rfl, by decide⟩ rfl rfl (Nat.le_of_ble_eq_true rfl) (by decide) hP_141 (Nat.le_of_ble_eq_true rfl) (fun _ => rfl) (k_f_Zone_switchMonth O f (d + 4) s1 s2 M) (fun x1 M1 => ?_)
  refine xZ.jc_ne (me := xm140) hP_140 rfl (fun h1 => ?_) (fun h1 => ?_)
  · skip
    exact xZ.no
  · skip
    refine xZ.adv (me := xm140) hP_140 2 (pc' := 67) (lv' := [(0, .ref v0), (2, .int (yw v2)), (3, .int (yw v3)), (4, .int (yw v4)), (5, .int (yw v5)), (6, .int (yw v6)), (7, .ref v7)]) (st' := [.int (yw v2), .ref v7]) rfl ?_
    refine xZ.callv (κ := oJ) (av := [.int (yw v2)]) (rest := []) (st' := fun x2 => [.int (yw x2)]) (k0 := v7) (me := xm140) hP_140 rfl (Or.inl rfl) ⟨rfl, by decide⟩ rfl rfl (Nat.le_of_ble_eq_true rfl) (by decide) hP_141 (Nat.le_of_ble_eq_true rfl) (fun _ => rfl) (k_f_Zone_switchMonth O f (d + 4) v7 v2 M1) (fun x2 M2 => ?_)
    refine xZ.adv (me := xm140) hP_140 2 (pc' := 73) (lv' := [(8, .int (yw x2)), (0, .ref v0), (2, .int (yw v2)), (3, .int (yw v3)), (4, .int (yw v4)), (5, .int (yw v5)), (6, .int (yw v6)), (7, .ref v7)]) (st' := [.ref v0]) rfl ?_
    refine xZ.callv (κ := oU) (av := []) (rest := []) (st' := fun _ => []) (k0 := v0) (me := xm140) hP_140 rfl (Or.inl rfl) ⟨rfl, by decide⟩ rfl rfl (Nat.le_of_ble_eq_true rfl) (by decide) hP_23 (Nat.le_of_ble_eq_true rfl) (fun _ => rfl) (k_f_Calendarhall_saveForUndo O f (d + 0) v0 M2) (fun _ M3 => ?_)
    refine xZ.adv (me := xm140) hP_140 6 (pc' := 86) (lv' := [(8, .int (yw x2)), (0, .ref v0), (2, .int (yw v2)), (3, .int (yw v3)), (4, .int (yw v4)), (5, .int (yw v5)), (6, .int (yw v6)), (7, .ref v7)]) (st' := [.int (yw v6), .int (yw v5), .int (yw v4), .int (yw v3), .int (yw v2), .ref v7]) rfl ?_
    refine xZ.callv (κ := oU) (av := [.int (yw v2), .int (yw v3), .int (yw v4), .int (yw v5), .int (yw v6)]) (rest := []) (st' := fun _ => []) (k0 := v7) (me := xm140) hP_140 rfl (Or.inl rfl) ⟨rfl, by decide⟩ rfl rfl (Nat.le_of_ble_eq_true rfl) (by decide) hP_142 (Nat.le_of_ble_eq_true rfl) (fun _ => rfl) (k_f_Zone_putSwitch O f (d + 4) v7 v2 v3 v4 v5 v6 M3) (fun _ M4 => ?_)
    refine xZ.adv (me := xm140) hP_140 1 (pc' := 91) (lv' := [(8, .int (yw x2)), (0, .ref v0), (2, .int (yw v2)), (3, .int (yw v3)), (4, .int (yw v4)), (5, .int (yw v5)), (6, .int (yw v6)), (7, .ref v7)]) (st' := [.int (yw x2)]) rfl ?_
    exact xZ.jreti (me := xm140) hP_140 rfl rfl
def f_Calendarhall_setSwitch (O : Nat → Option va_E) (f : Nat) (v0 : Nat) (v1 : Int) (v2 : Int) (v3 : Int) (v4 : Int) (v5 : Int) (v6 : Int) (M : xM) : Option (Int × xM) :=
  (isO O M v0 12).bind fun _ =>
  xcl (f_Calendarhall_zoneNumbered O f v0 v1 M) fun x1 M1 =>
  xcl (f_Calendarhall_needRange O f v3 1 12 M1) fun _ M2 =>
  xcl (f_Calendarhall_needRange O f v4 1 5 M2) fun _ M3 =>
  xcl (f_Calendarhall_needRange O f v5 0 6 M3) fun _ M4 =>
  xcl (f_Calendarhall_needRange O f v6 0 1439 M4) fun _ M5 =>
  if yw v2 = yw 0 then (
    f_Calendarhall_setSwitch_50 O f v0 v2 v3 v4 v5 v6 x1 v3 x1 1 M5
  ) else
  f_Calendarhall_setSwitch_50 O f v0 v2 v3 v4 v5 v6 x1 v3 x1 0 M5
set_option maxRecDepth 20000 in
theorem k_f_Calendarhall_setSwitch (O : Nat → Option va_E) (f d : Nat) (v0 : Nat) (v1 : Int) (v2 : Int) (v3 : Int) (v4 : Int) (v5 : Int) (v6 : Int) (M : xM) : xZ oJ O (d + 5) 140 0 [(0, .ref v0), (1, .int (yw v1)), (2, .int (yw v2)), (3, .int (yw v3)), (4, .int (yw v4)), (5, .int (yw v5)), (6, .int (yw v6))] [] M (f_Calendarhall_setSwitch O f v0 v1 v2 v3 v4 v5 v6 M) := by
  unfold f_Calendarhall_setSwitch
  refine xZ.adv (me := xm140) hP_140 2 (pc' := 2) (lv' := [(0, .ref v0), (1, .int (yw v1)), (2, .int (yw v2)), (3, .int (yw v3)), (4, .int (yw v4)), (5, .int (yw v5)), (6, .int (yw v6))]) (st' := [.int (yw v1), .ref v0]) rfl ?_
  refine xZ.callv (κ := oR) (av := [.int (yw v1)]) (rest := []) (st' := fun x1 => [.ref x1]) (k0 := v0) (me := xm140) hP_140 rfl (Or.inl rfl) ⟨rfl, by decide⟩ rfl rfl (Nat.le_of_ble_eq_true rfl) (by decide) hP_20 (Nat.le_of_ble_eq_true rfl) (fun _ => rfl) (k_f_Calendarhall_zoneNumbered O f (d + 3) v0 v1 M) (fun x1 M1 => ?_)
  refine xZ.adv (me := xm140) hP_140 4 (pc' := 11) (lv' := [(7, .ref x1), (0, .ref v0), (1, .int (yw v1)), (2, .int (yw v2)), (3, .int (yw v3)), (4, .int (yw v4)), (5, .int (yw v5)), (6, .int (yw v6))]) (st' := [.int (12 : Int32), .int (1 : Int32), .int (yw v3)]) rfl ?_
  refine xZ.eqs (lv2 := [(7, .ref x1), (0, .ref v0), (1, .int (yw v1)), (2, .int (yw v2)), (3, .int (yw v3)), (4, .int (yw v4)), (5, .int (yw v5)), (6, .int (yw v6))]) (st2 := [.int (yw 12), .int (yw 1), .int (yw v3)]) rfl (by simp only [yl_lit, yL_lit, yw_add, yw_sub, yw_mul, yw_neg, yl_add, yl_sub, yl_mul, cj_and, cj_or, cj_xor, cj_shl, cj_shr, cj_ushr, cj_div, cj_i2c, cj_i2b, cj_dc, ck_and, ck_or, ck_xor, ck_shl, ck_shr, ck_ushr, ck_i2l, ck_l2i, ck_cmp]) ?_
  refine xZ.calls (κ := oU) (av := [.int (yw v3), .int (yw 1), .int (yw 12)]) (rest := []) (st' := fun _ => []) (me := xm140) hP_140 rfl rfl rfl (Nat.le_of_ble_eq_true rfl) (by decide) hP_22 (Nat.le_of_ble_eq_true rfl) (fun _ => rfl) (k_f_Calendarhall_needRange O f (d + 4) v3 1 12 M1) (fun _ M2 => ?_)
  refine xZ.adv (me := xm140) hP_140 3 (pc' := 18) (lv' := [(7, .ref x1), (0, .ref v0), (1, .int (yw v1)), (2, .int (yw v2)), (3, .int (yw v3)), (4, .int (yw v4)), (5, .int (yw v5)), (6, .int (yw v6))]) (st' := [.int (5 : Int32), .int (1 : Int32), .int (yw v4)]) rfl ?_
  refine xZ.eqs (lv2 := [(7, .ref x1), (0, .ref v0), (1, .int (yw v1)), (2, .int (yw v2)), (3, .int (yw v3)), (4, .int (yw v4)), (5, .int (yw v5)), (6, .int (yw v6))]) (st2 := [.int (yw 5), .int (yw 1), .int (yw v4)]) rfl (by simp only [yl_lit, yL_lit, yw_add, yw_sub, yw_mul, yw_neg, yl_add, yl_sub, yl_mul, cj_and, cj_or, cj_xor, cj_shl, cj_shr, cj_ushr, cj_div, cj_i2c, cj_i2b, cj_dc, ck_and, ck_or, ck_xor, ck_shl, ck_shr, ck_ushr, ck_i2l, ck_l2i, ck_cmp]) ?_
  refine xZ.calls (κ := oU) (av := [.int (yw v4), .int (yw 1), .int (yw 5)]) (rest := []) (st' := fun _ => []) (me := xm140) hP_140 rfl rfl rfl (Nat.le_of_ble_eq_true rfl) (by decide) hP_22 (Nat.le_of_ble_eq_true rfl) (fun _ => rfl) (k_f_Calendarhall_needRange O f (d + 4) v4 1 5 M2) (fun _ M3 => ?_)
  refine xZ.adv (me := xm140) hP_140 3 (pc' := 26) (lv' := [(7, .ref x1), (0, .ref v0), (1, .int (yw v1)), (2, .int (yw v2)), (3, .int (yw v3)), (4, .int (yw v4)), (5, .int (yw v5)), (6, .int (yw v6))]) (st' := [.int (6 : Int32), .int (0 : Int32), .int (yw v5)]) rfl ?_
  refine xZ.eqs (lv2 := [(7, .ref x1), (0, .ref v0), (1, .int (yw v1)), (2, .int (yw v2)), (3, .int (yw v3)), (4, .int (yw v4)), (5, .int (yw v5)), (6, .int (yw v6))]) (st2 := [.int (yw 6), .int (yw 0), .int (yw v5)]) rfl (by simp only [yl_lit, yL_lit, yw_add, yw_sub, yw_mul, yw_neg, yl_add, yl_sub, yl_mul, cj_and, cj_or, cj_xor, cj_shl, cj_shr, cj_ushr, cj_div, cj_i2c, cj_i2b, cj_dc, ck_and, ck_or, ck_xor, ck_shl, ck_shr, ck_ushr, ck_i2l, ck_l2i, ck_cmp]) ?_
  refine xZ.calls (κ := oU) (av := [.int (yw v5), .int (yw 0), .int (yw 6)]) (rest := []) (st' := fun _ => []) (me := xm140) hP_140 rfl rfl rfl (Nat.le_of_ble_eq_true rfl) (by decide) hP_22 (Nat.le_of_ble_eq_true rfl) (fun _ => rfl) (k_f_Calendarhall_needRange O f (d + 4) v5 0 6 M3) (fun _ M4 => ?_)
  refine xZ.adv (me := xm140) hP_140 3 (pc' := 35) (lv' := [(7, .ref x1), (0, .ref v0), (1, .int (yw v1)), (2, .int (yw v2)), (3, .int (yw v3)), (4, .int (yw v4)), (5, .int (yw v5)), (6, .int (yw v6))]) (st' := [.int (1439 : Int32), .int (0 : Int32), .int (yw v6)]) rfl ?_
  refine xZ.eqs (lv2 := [(7, .ref x1), (0, .ref v0), (1, .int (yw v1)), (2, .int (yw v2)), (3, .int (yw v3)), (4, .int (yw v4)), (5, .int (yw v5)), (6, .int (yw v6))]) (st2 := [.int (yw 1439), .int (yw 0), .int (yw v6)]) rfl (by simp only [yl_lit, yL_lit, yw_add, yw_sub, yw_mul, yw_neg, yl_add, yl_sub, yl_mul, cj_and, cj_or, cj_xor, cj_shl, cj_shr, cj_ushr, cj_div, cj_i2c, cj_i2b, cj_dc, ck_and, ck_or, ck_xor, ck_shl, ck_shr, ck_ushr, ck_i2l, ck_l2i, ck_cmp]) ?_
  refine xZ.calls (κ := oU) (av := [.int (yw v6), .int (yw 0), .int (yw 1439)]) (rest := []) (st' := fun _ => []) (me := xm140) hP_140 rfl rfl rfl (Nat.le_of_ble_eq_true rfl) (by decide) hP_22 (Nat.le_of_ble_eq_true rfl) (fun _ => rfl) (k_f_Calendarhall_needRange O f (d + 4) v6 0 1439 M4) (fun _ M5 => ?_)
  refine xZ.adv (me := xm140) hP_140 3 (pc' := 42) (lv' := [(7, .ref x1), (0, .ref v0), (1, .int (yw v1)), (2, .int (yw v2)), (3, .int (yw v3)), (4, .int (yw v4)), (5, .int (yw v5)), (6, .int (yw v6))]) (st' := [.int (yw v2), .ref x1, .int (yw v3)]) rfl ?_
  refine xZ.jf_ne (me := xm140) hP_140 rfl (fun h1 => ?_) (fun h1 => ?_)
  · skip
    refine xZ.adv (me := xm140) hP_140 2 (pc' := 50) (lv' := [(7, .ref x1), (0, .ref v0), (1, .int (yw v1)), (2, .int (yw v2)), (3, .int (yw v3)), (4, .int (yw v4)), (5, .int (yw v5)), (6, .int (yw v6))]) (st' := [.int (1 : Int32), .ref x1, .int (yw v3)]) rfl ?_
    refine xZ.eqs (lv2 := [(7, .ref x1), (0, .ref v0), (1, .int (yw v1)), (2, .int (yw v2)), (3, .int (yw v3)), (4, .int (yw v4)), (5, .int (yw v5)), (6, .int (yw v6))]) (st2 := [.int (yw 1), .ref x1, .int (yw v3)]) rfl (by simp only [yl_lit, yL_lit, yw_add, yw_sub, yw_mul, yw_neg, yl_add, yl_sub, yl_mul, cj_and, cj_or, cj_xor, cj_shl, cj_shr, cj_ushr, cj_div, cj_i2c, cj_i2b, cj_dc, ck_and, ck_or, ck_xor, ck_shl, ck_shr, ck_ushr, ck_i2l, ck_l2i, ck_cmp]) ?_
    exact xZ.sub (xsc (.tail _ (.head _)) (xsc (.tail _ (.tail _ (.tail _ (.head _)))) (xsc (.tail _ (.tail _ (.tail _ (.tail _ (.head _))))) (xsc (.tail _ (.tail _ (.tail _ (.tail _ (.tail _ (.head _)))))) (xsc (.tail _ (.tail _ (.tail _ (.tail _ (.tail _ (.tail _ (.head _))))))) (xsc (.tail _ (.tail _ (.tail _ (.tail _ (.tail _ (.tail _ (.tail _ (.head _)))))))) (xsc (.head _) xsn))))))) (show ([7, 0, 1, 2, 3, 4, 5, 6] : List Nat).Nodup from by decide) (k_f_Calendarhall_setSwitch_50 O f d v0 v2 v3 v4 v5 v6 x1 v3 x1 1 M5)
  · skip
    refine xZ.adv (me := xm140) hP_140 1 (pc' := 50) (lv' := [(7, .ref x1), (0, .ref v0), (1, .int (yw v1)), (2, .int (yw v2)), (3, .int (yw v3)), (4, .int (yw v4)), (5, .int (yw v5)), (6, .int (yw v6))]) (st' := [.int (0 : Int32), .ref x1, .int (yw v3)]) rfl ?_
    refine xZ.eqs (lv2 := [(7, .ref x1), (0, .ref v0), (1, .int (yw v1)), (2, .int (yw v2)), (3, .int (yw v3)), (4, .int (yw v4)), (5, .int (yw v5)), (6, .int (yw v6))]) (st2 := [.int (yw 0), .ref x1, .int (yw v3)]) rfl (by simp only [yl_lit, yL_lit, yw_add, yw_sub, yw_mul, yw_neg, yl_add, yl_sub, yl_mul, cj_and, cj_or, cj_xor, cj_shl, cj_shr, cj_ushr, cj_div, cj_i2c, cj_i2b, cj_dc, ck_and, ck_or, ck_xor, ck_shl, ck_shr, ck_ushr, ck_i2l, ck_l2i, ck_cmp]) ?_
    exact xZ.sub (xsc (.tail _ (.head _)) (xsc (.tail _ (.tail _ (.tail _ (.head _)))) (xsc (.tail _ (.tail _ (.tail _ (.tail _ (.head _))))) (xsc (.tail _ (.tail _ (.tail _ (.tail _ (.tail _ (.head _)))))) (xsc (.tail _ (.tail _ (.tail _ (.tail _ (.tail _ (.tail _ (.head _))))))) (xsc (.tail _ (.tail _ (.tail _ (.tail _ (.tail _ (.tail _ (.tail _ (.head _)))))))) (xsc (.head _) xsn))))))) (show ([7, 0, 1, 2, 3, 4, 5, 6] : List Nat).Nodup from by decide) (k_f_Calendarhall_setSwitch_50 O f d v0 v2 v3 v4 v5 v6 x1 v3 x1 0 M5)
def f_Law_sets_14 (O : Nat → Option va_E) (f : Nat) : Nat → Nat → Nat → Nat → Nat → Nat → Int → xM → Option (Int × xM)
  | 0, _, _, _, _, _, _, _ => none
  | n + 1, v0, v1, v2, v3, v4, v5, M =>
    (aJ O M v1 0).bind fun x1 =>
    if yw v5 = yw x1 then (
      f_Law_sets_14 O f n v0 v1 v2 v3 v4 (v5 + 1) M
    ) else
    (aJ O M v1 1).bind fun x2 =>
    if yw v5 = yw x2 then (
      f_Law_sets_14 O f n v0 v1 v2 v3 v4 (v5 + 1) M
    ) else
    if yw v5 = yw 3 then (
      f_Law_sets_14 O f n v0 v1 v2 v3 v4 (v5 + 1) M
    ) else
    if yw v5 = yw 10 then (
      f_Law_sets_14 O f n v0 v1 v2 v3 v4 (v5 + 1) M
    ) else
    (isO O M v0 12).bind fun _ =>
    xcl (f_Calendarhall_setSwitch O f v0 1 0 v5 1 0 0 M) fun x3 M1 =>
    (aJ O M1 v1 0).bind fun x4 =>
    (aJ O M1 v2 0).bind fun x5 =>
    (aJ O M1 v3 0).bind fun x6 =>
    (aJ O M1 v4 0).bind fun x7 =>
    (isO O M1 v0 12).bind fun _ =>
    xcl (f_Calendarhall_setSwitch O f v0 1 1 x4 x5 x6 x7 M1) fun x8 M2 =>
    (aJ O M2 v1 1).bind fun x9 =>
    (aJ O M2 v2 1).bind fun x10 =>
    (aJ O M2 v3 1).bind fun x11 =>
    (aJ O M2 v4 1).bind fun x12 =>
    (isO O M2 v0 12).bind fun _ =>
    xcl (f_Calendarhall_setSwitch O f v0 1 0 x9 x10 x11 x12 M2) fun x13 M3 =>
    if yw x13 = yw v5 then (
      some (1, M3)
    ) else
    some (0, M3)
set_option maxRecDepth 20000 in
theorem k_f_Law_sets_14 (O : Nat → Option va_E) (f d : Nat) : ∀ (n : Nat) (v0 : Nat) (v1 : Nat) (v2 : Nat) (v3 : Nat) (v4 : Nat) (v5 : Int) (M : xM), xZ oJ O (d + 6) 139 14 [(0, .ref v0), (1, .ref v1), (2, .ref v2), (3, .ref v3), (4, .ref v4), (5, .int (yw v5))] [] M (f_Law_sets_14 O f n v0 v1 v2 v3 v4 v5 M) := by
  intro n
  induction n with
  | zero =>
    intro v0 v1 v2 v3 v4 v5 M
    exact xZ.no
  | succ n ih =>
    intro v0 v1 v2 v3 v4 v5 M
    unfold f_Law_sets_14
    refine xZ.adv (me := xm139) hP_139 3 (pc' := 18) (lv' := [(0, .ref v0), (1, .ref v1), (2, .ref v2), (3, .ref v3), (4, .ref v4), (5, .int (yw v5))]) (st' := [.int (0 : Int32), .ref v1, .int (yw v5)]) rfl ?_
    refine xZ.eqs (lv2 := [(0, .ref v0), (1, .ref v1), (2, .ref v2), (3, .ref v3), (4, .ref v4), (5, .int (yw v5))]) (st2 := [.int (yw 0), .ref v1, .int (yw v5)]) rfl (by simp only [yl_lit, yL_lit, yw_add, yw_sub, yw_mul, yw_neg, yl_add, yl_sub, yl_mul, cj_and, cj_or, cj_xor, cj_shl, cj_shr, cj_ushr, cj_div, cj_i2c, cj_i2b, cj_dc, ck_and, ck_or, ck_xor, ck_shl, ck_shr, ck_ushr, ck_i2l, ck_l2i, ck_cmp]) ?_
    refine xZ.k_aJ (me := xm139) hP_139 rfl (fun x1 => ?_)
    refine xZ.jc_eq (me := xm139) hP_139 rfl (fun h1 => ?_) (fun h1 => ?_)
    · skip
      refine xZ.adv (me := xm139) hP_139 2 (pc' := 14) (lv' := [(5, .int ((yw v5) + (1 : Int32))), (0, .ref v0), (1, .ref v1), (2, .ref v2), (3, .ref v3), (4, .ref v4)]) (st' := []) rfl ?_
      refine xZ.eqs (lv2 := [(5, .int (yw (v5 + 1))), (0, .ref v0), (1, .ref v1), (2, .ref v2), (3, .ref v3), (4, .ref v4)]) (st2 := []) (by simp only [yl_lit, yL_lit, yw_add, yw_sub, yw_mul, yw_neg, yl_add, yl_sub, yl_mul, cj_and, cj_or, cj_xor, cj_shl, cj_shr, cj_ushr, cj_div, cj_i2c, cj_i2b, cj_dc, ck_and, ck_or, ck_xor, ck_shl, ck_shr, ck_ushr, ck_i2l, ck_l2i, ck_cmp]) rfl ?_
      exact xZ.sub (xsc (.tail _ (.head _)) (xsc (.tail _ (.tail _ (.head _))) (xsc (.tail _ (.tail _ (.tail _ (.head _)))) (xsc (.tail _ (.tail _ (.tail _ (.tail _ (.head _))))) (xsc (.tail _ (.tail _ (.tail _ (.tail _ (.tail _ (.head _)))))) (xsc (.head _) xsn)))))) (show ([5, 0, 1, 2, 3, 4] : List Nat).Nodup from by decide) (ih v0 v1 v2 v3 v4 (v5 + 1) M)
    · skip
      refine xZ.adv (me := xm139) hP_139 3 (pc' := 26) (lv' := [(0, .ref v0), (1, .ref v1), (2, .ref v2), (3, .ref v3), (4, .ref v4), (5, .int (yw v5))]) (st' := [.int (1 : Int32), .ref v1, .int (yw v5)]) rfl ?_
      refine xZ.eqs (lv2 := [(0, .ref v0), (1, .ref v1), (2, .ref v2), (3, .ref v3), (4, .ref v4), (5, .int (yw v5))]) (st2 := [.int (yw 1), .ref v1, .int (yw v5)]) rfl (by simp only [yl_lit, yL_lit, yw_add, yw_sub, yw_mul, yw_neg, yl_add, yl_sub, yl_mul, cj_and, cj_or, cj_xor, cj_shl, cj_shr, cj_ushr, cj_div, cj_i2c, cj_i2b, cj_dc, ck_and, ck_or, ck_xor, ck_shl, ck_shr, ck_ushr, ck_i2l, ck_l2i, ck_cmp]) ?_
      refine xZ.k_aJ (me := xm139) hP_139 rfl (fun x2 => ?_)
      refine xZ.jc_eq (me := xm139) hP_139 rfl (fun h2 => ?_) (fun h2 => ?_)
      · skip
        refine xZ.adv (me := xm139) hP_139 2 (pc' := 14) (lv' := [(5, .int ((yw v5) + (1 : Int32))), (0, .ref v0), (1, .ref v1), (2, .ref v2), (3, .ref v3), (4, .ref v4)]) (st' := []) rfl ?_
        refine xZ.eqs (lv2 := [(5, .int (yw (v5 + 1))), (0, .ref v0), (1, .ref v1), (2, .ref v2), (3, .ref v3), (4, .ref v4)]) (st2 := []) (by simp only [yl_lit, yL_lit, yw_add, yw_sub, yw_mul, yw_neg, yl_add, yl_sub, yl_mul, cj_and, cj_or, cj_xor, cj_shl, cj_shr, cj_ushr, cj_div, cj_i2c, cj_i2b, cj_dc, ck_and, ck_or, ck_xor, ck_shl, ck_shr, ck_ushr, ck_i2l, ck_l2i, ck_cmp]) rfl ?_
        exact xZ.sub (xsc (.tail _ (.head _)) (xsc (.tail _ (.tail _ (.head _))) (xsc (.tail _ (.tail _ (.tail _ (.head _)))) (xsc (.tail _ (.tail _ (.tail _ (.tail _ (.head _))))) (xsc (.tail _ (.tail _ (.tail _ (.tail _ (.tail _ (.head _)))))) (xsc (.head _) xsn)))))) (show ([5, 0, 1, 2, 3, 4] : List Nat).Nodup from by decide) (ih v0 v1 v2 v3 v4 (v5 + 1) M)
      · skip
        refine xZ.adv (me := xm139) hP_139 2 (pc' := 33) (lv' := [(0, .ref v0), (1, .ref v1), (2, .ref v2), (3, .ref v3), (4, .ref v4), (5, .int (yw v5))]) (st' := [.int (3 : Int32), .int (yw v5)]) rfl ?_
        refine xZ.eqs (lv2 := [(0, .ref v0), (1, .ref v1), (2, .ref v2), (3, .ref v3), (4, .ref v4), (5, .int (yw v5))]) (st2 := [.int (yw 3), .int (yw v5)]) rfl (by simp only [yl_lit, yL_lit, yw_add, yw_sub, yw_mul, yw_neg, yl_add, yl_sub, yl_mul, cj_and, cj_or, cj_xor, cj_shl, cj_shr, cj_ushr, cj_div, cj_i2c, cj_i2b, cj_dc, ck_and, ck_or, ck_xor, ck_shl, ck_shr, ck_ushr, ck_i2l, ck_l2i, ck_cmp]) ?_
        refine xZ.jc_eq (me := xm139) hP_139 rfl (fun h3 => ?_) (fun h3 => ?_)
        · skip
          refine xZ.adv (me := xm139) hP_139 2 (pc' := 14) (lv' := [(5, .int ((yw v5) + (1 : Int32))), (0, .ref v0), (1, .ref v1), (2, .ref v2), (3, .ref v3), (4, .ref v4)]) (st' := []) rfl ?_
          refine xZ.eqs (lv2 := [(5, .int (yw (v5 + 1))), (0, .ref v0), (1, .ref v1), (2, .ref v2), (3, .ref v3), (4, .ref v4)]) (st2 := []) (by simp only [yl_lit, yL_lit, yw_add, yw_sub, yw_mul, yw_neg, yl_add, yl_sub, yl_mul, cj_and, cj_or, cj_xor, cj_shl, cj_shr, cj_ushr, cj_div, cj_i2c, cj_i2b, cj_dc, ck_and, ck_or, ck_xor, ck_shl, ck_shr, ck_ushr, ck_i2l, ck_l2i, ck_cmp]) rfl ?_
          exact xZ.sub (xsc (.tail _ (.head _)) (xsc (.tail _ (.tail _ (.head _))) (xsc (.tail _ (.tail _ (.tail _ (.head _)))) (xsc (.tail _ (.tail _ (.tail _ (.tail _ (.head _))))) (xsc (.tail _ (.tail _ (.tail _ (.tail _ (.tail _ (.head _)))))) (xsc (.head _) xsn)))))) (show ([5, 0, 1, 2, 3, 4] : List Nat).Nodup from by decide) (ih v0 v1 v2 v3 v4 (v5 + 1) M)
        · skip
          refine xZ.adv (me := xm139) hP_139 2 (pc' := 40) (lv' := [(0, .ref v0), (1, .ref v1), (2, .ref v2), (3, .ref v3), (4, .ref v4), (5, .int (yw v5))]) (st' := [.int (10 : Int32), .int (yw v5)]) rfl ?_
          refine xZ.eqs (lv2 := [(0, .ref v0), (1, .ref v1), (2, .ref v2), (3, .ref v3), (4, .ref v4), (5, .int (yw v5))]) (st2 := [.int (yw 10), .int (yw v5)]) rfl (by simp only [yl_lit, yL_lit, yw_add, yw_sub, yw_mul, yw_neg, yl_add, yl_sub, yl_mul, cj_and, cj_or, cj_xor, cj_shl, cj_shr, cj_ushr, cj_div, cj_i2c, cj_i2b, cj_dc, ck_and, ck_or, ck_xor, ck_shl, ck_shr, ck_ushr, ck_i2l, ck_l2i, ck_cmp]) ?_
          refine xZ.jc_ne (me := xm139) hP_139 rfl (fun h4 => ?_) (fun h4 => ?_)
          · skip
            refine xZ.adv (me := xm139) hP_139 2 (pc' := 14) (lv' := [(5, .int ((yw v5) + (1 : Int32))), (0, .ref v0), (1, .ref v1), (2, .ref v2), (3, .ref v3), (4, .ref v4)]) (st' := []) rfl ?_
            refine xZ.eqs (lv2 := [(5, .int (yw (v5 + 1))), (0, .ref v0), (1, .ref v1), (2, .ref v2), (3, .ref v3), (4, .ref v4)]) (st2 := []) (by simp only [yl_lit, yL_lit, yw_add, yw_sub, yw_mul, yw_neg, yl_add, yl_sub, yl_mul, cj_and, cj_or, cj_xor, cj_shl, cj_shr, cj_ushr, cj_div, cj_i2c, cj_i2b, cj_dc, ck_and, ck_or, ck_xor, ck_shl, ck_shr, ck_ushr, ck_i2l, ck_l2i, ck_cmp]) rfl ?_
            exact xZ.sub (xsc (.tail _ (.head _)) (xsc (.tail _ (.tail _ (.head _))) (xsc (.tail _ (.tail _ (.tail _ (.head _)))) (xsc (.tail _ (.tail _ (.tail _ (.tail _ (.head _))))) (xsc (.tail _ (.tail _ (.tail _ (.tail _ (.tail _ (.head _)))))) (xsc (.head _) xsn)))))) (show ([5, 0, 1, 2, 3, 4] : List Nat).Nodup from by decide) (ih v0 v1 v2 v3 v4 (v5 + 1) M)
          · skip
            refine xZ.adv (me := xm139) hP_139 7 (pc' := 57) (lv' := [(0, .ref v0), (1, .ref v1), (2, .ref v2), (3, .ref v3), (4, .ref v4), (5, .int (yw v5))]) (st' := [.int (0 : Int32), .int (0 : Int32), .int (1 : Int32), .int (yw v5), .int (0 : Int32), .int (1 : Int32), .ref v0]) rfl ?_
            refine xZ.eqs (lv2 := [(0, .ref v0), (1, .ref v1), (2, .ref v2), (3, .ref v3), (4, .ref v4), (5, .int (yw v5))]) (st2 := [.int (yw 0), .int (yw 0), .int (yw 1), .int (yw v5), .int (yw 0), .int (yw 1), .ref v0]) rfl (by simp only [yl_lit, yL_lit, yw_add, yw_sub, yw_mul, yw_neg, yl_add, yl_sub, yl_mul, cj_and, cj_or, cj_xor, cj_shl, cj_shr, cj_ushr, cj_div, cj_i2c, cj_i2b, cj_dc, ck_and, ck_or, ck_xor, ck_shl, ck_shr, ck_ushr, ck_i2l, ck_l2i, ck_cmp]) ?_
            refine xZ.callv (κ := oJ) (av := [.int (yw 1), .int (yw 0), .int (yw v5), .int (yw 1), .int (yw 0), .int (yw 0)]) (rest := []) (st' := fun x3 => [.int (yw x3)]) (k0 := v0) (me := xm139) hP_139 rfl (Or.inl rfl) ⟨rfl, by decide⟩ rfl rfl (Nat.le_of_ble_eq_true rfl) (by decide) hP_140 (Nat.le_of_ble_eq_true rfl) (fun _ => rfl) (k_f_Calendarhall_setSwitch O f (d + 0) v0 1 0 v5 1 0 0 M) (fun x3 M1 => ?_)
            refine xZ.adv (me := xm139) hP_139 6 (pc' := 66) (lv' := [(0, .ref v0), (1, .ref v1), (2, .ref v2), (3, .ref v3), (4, .ref v4), (5, .int (yw v5))]) (st' := [.int (0 : Int32), .ref v1, .int (1 : Int32), .int (1 : Int32), .ref v0]) rfl ?_
            refine xZ.eqs (lv2 := [(0, .ref v0), (1, .ref v1), (2, .ref v2), (3, .ref v3), (4, .ref v4), (5, .int (yw v5))]) (st2 := [.int (yw 0), .ref v1, .int (yw 1), .int (yw 1), .ref v0]) rfl (by simp only [yl_lit, yL_lit, yw_add, yw_sub, yw_mul, yw_neg, yl_add, yl_sub, yl_mul, cj_and, cj_or, cj_xor, cj_shl, cj_shr, cj_ushr, cj_div, cj_i2c, cj_i2b, cj_dc, ck_and, ck_or, ck_xor, ck_shl, ck_shr, ck_ushr, ck_i2l, ck_l2i, ck_cmp]) ?_
            refine xZ.k_aJ (me := xm139) hP_139 rfl (fun x4 => ?_)
            refine xZ.adv (me := xm139) hP_139 2 (pc' := 69) (lv' := [(0, .ref v0), (1, .ref v1), (2, .ref v2), (3, .ref v3), (4, .ref v4), (5, .int (yw v5))]) (st' := [.int (0 : Int32), .ref v2, .int (yw x4), .int (yw 1), .int (yw 1), .ref v0]) rfl ?_
            refine xZ.eqs (lv2 := [(0, .ref v0), (1, .ref v1), (2, .ref v2), (3, .ref v3), (4, .ref v4), (5, .int (yw v5))]) (st2 := [.int (yw 0), .ref v2, .int (yw x4), .int (yw 1), .int (yw 1), .ref v0]) rfl (by simp only [yl_lit, yL_lit, yw_add, yw_sub, yw_mul, yw_neg, yl_add, yl_sub, yl_mul, cj_and, cj_or, cj_xor, cj_shl, cj_shr, cj_ushr, cj_div, cj_i2c, cj_i2b, cj_dc, ck_and, ck_or, ck_xor, ck_shl, ck_shr, ck_ushr, ck_i2l, ck_l2i, ck_cmp]) ?_
            refine xZ.k_aJ (me := xm139) hP_139 rfl (fun x5 => ?_)
            refine xZ.adv (me := xm139) hP_139 2 (pc' := 72) (lv' := [(0, .ref v0), (1, .ref v1), (2, .ref v2), (3, .ref v3), (4, .ref v4), (5, .int (yw v5))]) (st' := [.int (0 : Int32), .ref v3, .int (yw x5), .int (yw x4), .int (yw 1), .int (yw 1), .ref v0]) rfl ?_
            refine xZ.eqs (lv2 := [(0, .ref v0), (1, .ref v1), (2, .ref v2), (3, .ref v3), (4, .ref v4), (5, .int (yw v5))]) (st2 := [.int (yw 0), .ref v3, .int (yw x5), .int (yw x4), .int (yw 1), .int (yw 1), .ref v0]) rfl (by simp only [yl_lit, yL_lit, yw_add, yw_sub, yw_mul, yw_neg, yl_add, yl_sub, yl_mul, cj_and, cj_or, cj_xor, cj_shl, cj_shr, cj_ushr, cj_div, cj_i2c, cj_i2b, cj_dc, ck_and, ck_or, ck_xor, ck_shl, ck_shr, ck_ushr, ck_i2l, ck_l2i, ck_cmp]) ?_
            refine xZ.k_aJ (me := xm139) hP_139 rfl (fun x6 => ?_)
            refine xZ.adv (me := xm139) hP_139 2 (pc' := 76) (lv' := [(0, .ref v0), (1, .ref v1), (2, .ref v2), (3, .ref v3), (4, .ref v4), (5, .int (yw v5))]) (st' := [.int (0 : Int32), .ref v4, .int (yw x6), .int (yw x5), .int (yw x4), .int (yw 1), .int (yw 1), .ref v0]) rfl ?_
            refine xZ.eqs (lv2 := [(0, .ref v0), (1, .ref v1), (2, .ref v2), (3, .ref v3), (4, .ref v4), (5, .int (yw v5))]) (st2 := [.int (yw 0), .ref v4, .int (yw x6), .int (yw x5), .int (yw x4), .int (yw 1), .int (yw 1), .ref v0]) rfl (by simp only [yl_lit, yL_lit, yw_add, yw_sub, yw_mul, yw_neg, yl_add, yl_sub, yl_mul, cj_and, cj_or, cj_xor, cj_shl, cj_shr, cj_ushr, cj_div, cj_i2c, cj_i2b, cj_dc, ck_and, ck_or, ck_xor, ck_shl, ck_shr, ck_ushr, ck_i2l, ck_l2i, ck_cmp]) ?_
            refine xZ.k_aJ (me := xm139) hP_139 rfl (fun x7 => ?_)
            refine xZ.callv (κ := oJ) (av := [.int (yw 1), .int (yw 1), .int (yw x4), .int (yw x5), .int (yw x6), .int (yw x7)]) (rest := []) (st' := fun x8 => [.int (yw x8)]) (k0 := v0) (me := xm139) hP_139 rfl (Or.inl rfl) ⟨rfl, by decide⟩ rfl rfl (Nat.le_of_ble_eq_true rfl) (by decide) hP_140 (Nat.le_of_ble_eq_true rfl) (fun _ => rfl) (k_f_Calendarhall_setSwitch O f (d + 0) v0 1 1 x4 x5 x6 x7 M1) (fun x8 M2 => ?_)
            refine xZ.adv (me := xm139) hP_139 6 (pc' := 86) (lv' := [(0, .ref v0), (1, .ref v1), (2, .ref v2), (3, .ref v3), (4, .ref v4), (5, .int (yw v5))]) (st' := [.int (1 : Int32), .ref v1, .int (0 : Int32), .int (1 : Int32), .ref v0]) rfl ?_
            refine xZ.eqs (lv2 := [(0, .ref v0), (1, .ref v1), (2, .ref v2), (3, .ref v3), (4, .ref v4), (5, .int (yw v5))]) (st2 := [.int (yw 1), .ref v1, .int (yw 0), .int (yw 1), .ref v0]) rfl (by simp only [yl_lit, yL_lit, yw_add, yw_sub, yw_mul, yw_neg, yl_add, yl_sub, yl_mul, cj_and, cj_or, cj_xor, cj_shl, cj_shr, cj_ushr, cj_div, cj_i2c, cj_i2b, cj_dc, ck_and, ck_or, ck_xor, ck_shl, ck_shr, ck_ushr, ck_i2l, ck_l2i, ck_cmp]) ?_
            refine xZ.k_aJ (me := xm139) hP_139 rfl (fun x9 => ?_)
            refine xZ.adv (me := xm139) hP_139 2 (pc' := 89) (lv' := [(0, .ref v0), (1, .ref v1), (2, .ref v2), (3, .ref v3), (4, .ref v4), (5, .int (yw v5))]) (st' := [.int (1 : Int32), .ref v2, .int (yw x9), .int (yw 0), .int (yw 1), .ref v0]) rfl ?_
            refine xZ.eqs (lv2 := [(0, .ref v0), (1, .ref v1), (2, .ref v2), (3, .ref v3), (4, .ref v4), (5, .int (yw v5))]) (st2 := [.int (yw 1), .ref v2, .int (yw x9), .int (yw 0), .int (yw 1), .ref v0]) rfl (by simp only [yl_lit, yL_lit, yw_add, yw_sub, yw_mul, yw_neg, yl_add, yl_sub, yl_mul, cj_and, cj_or, cj_xor, cj_shl, cj_shr, cj_ushr, cj_div, cj_i2c, cj_i2b, cj_dc, ck_and, ck_or, ck_xor, ck_shl, ck_shr, ck_ushr, ck_i2l, ck_l2i, ck_cmp]) ?_
            refine xZ.k_aJ (me := xm139) hP_139 rfl (fun x10 => ?_)
            refine xZ.adv (me := xm139) hP_139 2 (pc' := 92) (lv' := [(0, .ref v0), (1, .ref v1), (2, .ref v2), (3, .ref v3), (4, .ref v4), (5, .int (yw v5))]) (st' := [.int (1 : Int32), .ref v3, .int (yw x10), .int (yw x9), .int (yw 0), .int (yw 1), .ref v0]) rfl ?_
            refine xZ.eqs (lv2 := [(0, .ref v0), (1, .ref v1), (2, .ref v2), (3, .ref v3), (4, .ref v4), (5, .int (yw v5))]) (st2 := [.int (yw 1), .ref v3, .int (yw x10), .int (yw x9), .int (yw 0), .int (yw 1), .ref v0]) rfl (by simp only [yl_lit, yL_lit, yw_add, yw_sub, yw_mul, yw_neg, yl_add, yl_sub, yl_mul, cj_and, cj_or, cj_xor, cj_shl, cj_shr, cj_ushr, cj_div, cj_i2c, cj_i2b, cj_dc, ck_and, ck_or, ck_xor, ck_shl, ck_shr, ck_ushr, ck_i2l, ck_l2i, ck_cmp]) ?_
            refine xZ.k_aJ (me := xm139) hP_139 rfl (fun x11 => ?_)
            refine xZ.adv (me := xm139) hP_139 2 (pc' := 96) (lv' := [(0, .ref v0), (1, .ref v1), (2, .ref v2), (3, .ref v3), (4, .ref v4), (5, .int (yw v5))]) (st' := [.int (1 : Int32), .ref v4, .int (yw x11), .int (yw x10), .int (yw x9), .int (yw 0), .int (yw 1), .ref v0]) rfl ?_
            refine xZ.eqs (lv2 := [(0, .ref v0), (1, .ref v1), (2, .ref v2), (3, .ref v3), (4, .ref v4), (5, .int (yw v5))]) (st2 := [.int (yw 1), .ref v4, .int (yw x11), .int (yw x10), .int (yw x9), .int (yw 0), .int (yw 1), .ref v0]) rfl (by simp only [yl_lit, yL_lit, yw_add, yw_sub, yw_mul, yw_neg, yl_add, yl_sub, yl_mul, cj_and, cj_or, cj_xor, cj_shl, cj_shr, cj_ushr, cj_div, cj_i2c, cj_i2b, cj_dc, ck_and, ck_or, ck_xor, ck_shl, ck_shr, ck_ushr, ck_i2l, ck_l2i, ck_cmp]) ?_
            refine xZ.k_aJ (me := xm139) hP_139 rfl (fun x12 => ?_)
            refine xZ.callv (κ := oJ) (av := [.int (yw 1), .int (yw 0), .int (yw x9), .int (yw x10), .int (yw x11), .int (yw x12)]) (rest := []) (st' := fun x13 => [.int (yw x13)]) (k0 := v0) (me := xm139) hP_139 rfl (Or.inl rfl) ⟨rfl, by decide⟩ rfl rfl (Nat.le_of_ble_eq_true rfl) (by decide) hP_140 (Nat.le_of_ble_eq_true rfl) (fun _ => rfl) (k_f_Calendarhall_setSwitch O f (d + 0) v0 1 0 x9 x10 x11 x12 M2) (fun x13 M3 => ?_)
            refine xZ.adv (me := xm139) hP_139 1 (pc' := 102) (lv' := [(0, .ref v0), (1, .ref v1), (2, .ref v2), (3, .ref v3), (4, .ref v4), (5, .int (yw v5))]) (st' := [.int (yw v5), .int (yw x13)]) rfl ?_
            refine xZ.jc_ne (me := xm139) hP_139 rfl (fun h5 => ?_) (fun h5 => ?_)
            · skip
              refine xZ.adv (me := xm139) hP_139 2 (pc' := 110) (lv' := [(0, .ref v0), (1, .ref v1), (2, .ref v2), (3, .ref v3), (4, .ref v4), (5, .int (yw v5))]) (st' := [.int (1 : Int32)]) rfl ?_
              refine xZ.eqs (lv2 := [(0, .ref v0), (1, .ref v1), (2, .ref v2), (3, .ref v3), (4, .ref v4), (5, .int (yw v5))]) (st2 := [.int (yw 1)]) rfl (by simp only [yl_lit, yL_lit, yw_add, yw_sub, yw_mul, yw_neg, yl_add, yl_sub, yl_mul, cj_and, cj_or, cj_xor, cj_shl, cj_shr, cj_ushr, cj_div, cj_i2c, cj_i2b, cj_dc, ck_and, ck_or, ck_xor, ck_shl, ck_shr, ck_ushr, ck_i2l, ck_l2i, ck_cmp]) ?_
              exact xZ.jrete (me := xm139) hP_139 rfl rfl rfl
            · skip
              refine xZ.adv (me := xm139) hP_139 1 (pc' := 110) (lv' := [(0, .ref v0), (1, .ref v1), (2, .ref v2), (3, .ref v3), (4, .ref v4), (5, .int (yw v5))]) (st' := [.int (0 : Int32)]) rfl ?_
              refine xZ.eqs (lv2 := [(0, .ref v0), (1, .ref v1), (2, .ref v2), (3, .ref v3), (4, .ref v4), (5, .int (yw v5))]) (st2 := [.int (yw 0)]) rfl (by simp only [yl_lit, yL_lit, yw_add, yw_sub, yw_mul, yw_neg, yl_add, yl_sub, yl_mul, cj_and, cj_or, cj_xor, cj_shl, cj_shr, cj_ushr, cj_div, cj_i2c, cj_i2b, cj_dc, ck_and, ck_or, ck_xor, ck_shl, ck_shr, ck_ushr, ck_i2l, ck_l2i, ck_cmp]) ?_
              exact xZ.jrete (me := xm139) hP_139 rfl rfl rfl
def f_Law_sets (O : Nat → Option va_E) (f : Nat) (v0 : Nat) (v1 : Nat) (v2 : Nat) (v3 : Nat) (v4 : Nat) (M : xM) : Option (Int × xM) :=
  (aJ O M v1 0).bind fun x1 =>
  (aJ O M v1 1).bind fun x2 =>
  if yw x1 = yw x2 then (
    some (0, M)
  ) else
  f_Law_sets_14 O f f v0 v1 v2 v3 v4 1 M
set_option maxRecDepth 20000 in
theorem k_f_Law_sets (O : Nat → Option va_E) (f d : Nat) (v0 : Nat) (v1 : Nat) (v2 : Nat) (v3 : Nat) (v4 : Nat) (M : xM) : xZ oJ O (d + 6) 139 0 [(0, .ref v0), (1, .ref v1), (2, .ref v2), (3, .ref v3), (4, .ref v4)] [] M (f_Law_sets O f v0 v1 v2 v3 v4 M) := by
  unfold f_Law_sets
  refine xZ.adv (me := xm139) hP_139 2 (pc' := 2) (lv' := [(0, .ref v0), (1, .ref v1), (2, .ref v2), (3, .ref v3), (4, .ref v4)]) (st' := [.int (0 : Int32), .ref v1]) rfl ?_
  refine xZ.eqs (lv2 := [(0, .ref v0), (1, .ref v1), (2, .ref v2), (3, .ref v3), (4, .ref v4)]) (st2 := [.int (yw 0), .ref v1]) rfl (by simp only [yl_lit, yL_lit, yw_add, yw_sub, yw_mul, yw_neg, yl_add, yl_sub, yl_mul, cj_and, cj_or, cj_xor, cj_shl, cj_shr, cj_ushr, cj_div, cj_i2c, cj_i2b, cj_dc, ck_and, ck_or, ck_xor, ck_shl, ck_shr, ck_ushr, ck_i2l, ck_l2i, ck_cmp]) ?_
  refine xZ.k_aJ (me := xm139) hP_139 rfl (fun x1 => ?_)
  refine xZ.adv (me := xm139) hP_139 2 (pc' := 5) (lv' := [(0, .ref v0), (1, .ref v1), (2, .ref v2), (3, .ref v3), (4, .ref v4)]) (st' := [.int (1 : Int32), .ref v1, .int (yw x1)]) rfl ?_
  refine xZ.eqs (lv2 := [(0, .ref v0), (1, .ref v1), (2, .ref v2), (3, .ref v3), (4, .ref v4)]) (st2 := [.int (yw 1), .ref v1, .int (yw x1)]) rfl (by simp only [yl_lit, yL_lit, yw_add, yw_sub, yw_mul, yw_neg, yl_add, yl_sub, yl_mul, cj_and, cj_or, cj_xor, cj_shl, cj_shr, cj_ushr, cj_div, cj_i2c, cj_i2b, cj_dc, ck_and, ck_or, ck_xor, ck_shl, ck_shr, ck_ushr, ck_i2l, ck_l2i, ck_cmp]) ?_
  refine xZ.k_aJ (me := xm139) hP_139 rfl (fun x2 => ?_)
  refine xZ.jc_ne (me := xm139) hP_139 rfl (fun h1 => ?_) (fun h1 => ?_)
  · skip
    refine xZ.adv (me := xm139) hP_139 1 (pc' := 10) (lv' := [(0, .ref v0), (1, .ref v1), (2, .ref v2), (3, .ref v3), (4, .ref v4)]) (st' := [.int (0 : Int32)]) rfl ?_
    refine xZ.eqs (lv2 := [(0, .ref v0), (1, .ref v1), (2, .ref v2), (3, .ref v3), (4, .ref v4)]) (st2 := [.int (yw 0)]) rfl (by simp only [yl_lit, yL_lit, yw_add, yw_sub, yw_mul, yw_neg, yl_add, yl_sub, yl_mul, cj_and, cj_or, cj_xor, cj_shl, cj_shr, cj_ushr, cj_div, cj_i2c, cj_i2b, cj_dc, ck_and, ck_or, ck_xor, ck_shl, ck_shr, ck_ushr, ck_i2l, ck_l2i, ck_cmp]) ?_
    exact xZ.jrete (me := xm139) hP_139 rfl rfl rfl
  · skip
    refine xZ.adv (me := xm139) hP_139 2 (pc' := 14) (lv' := [(5, .int (1 : Int32)), (0, .ref v0), (1, .ref v1), (2, .ref v2), (3, .ref v3), (4, .ref v4)]) (st' := []) rfl ?_
    refine xZ.eqs (lv2 := [(5, .int (yw 1)), (0, .ref v0), (1, .ref v1), (2, .ref v2), (3, .ref v3), (4, .ref v4)]) (st2 := []) (by simp only [yl_lit, yL_lit, yw_add, yw_sub, yw_mul, yw_neg, yl_add, yl_sub, yl_mul, cj_and, cj_or, cj_xor, cj_shl, cj_shr, cj_ushr, cj_div, cj_i2c, cj_i2b, cj_dc, ck_and, ck_or, ck_xor, ck_shl, ck_shr, ck_ushr, ck_i2l, ck_l2i, ck_cmp]) rfl ?_
    exact xZ.sub (xsc (.tail _ (.head _)) (xsc (.tail _ (.tail _ (.head _))) (xsc (.tail _ (.tail _ (.tail _ (.head _)))) (xsc (.tail _ (.tail _ (.tail _ (.tail _ (.head _))))) (xsc (.tail _ (.tail _ (.tail _ (.tail _ (.tail _ (.head _)))))) (xsc (.head _) xsn)))))) (show ([5, 0, 1, 2, 3, 4] : List Nat).Nodup from by decide) (k_f_Law_sets_14 O f d f v0 v1 v2 v3 v4 1 M)
def f_Calendarhall_toLocal (O : Nat → Option va_E) (f : Nat) (v0 : Nat) (v1 : Int) (v2 : Int) (M : xM) : Option (Int × xM) :=
  (isO O M v0 12).bind fun _ =>
  xcl (f_Calendarhall_zoneNumbered O f v0 v1 M) fun x1 M1 =>
  xcl (f_Calendarhall_needMinute O f v2 M1) fun _ M2 =>
  (isO O M2 x1 11).bind fun _ =>
  xcl (f_Zone_localOf O f x1 v2 M2) fun x3 M3 =>
  some (x3, M3)
set_option maxRecDepth 20000 in
theorem k_f_Calendarhall_toLocal (O : Nat → Option va_E) (f d : Nat) (v0 : Nat) (v1 : Int) (v2 : Int) (M : xM) : xZ oJ O (d + 4) 143 0 [(0, .ref v0), (1, .int (yw v1)), (2, .int (yw v2))] [] M (f_Calendarhall_toLocal O f v0 v1 v2 M) := by
  unfold f_Calendarhall_toLocal
  refine xZ.adv (me := xm143) hP_143 2 (pc' := 2) (lv' := [(0, .ref v0), (1, .int (yw v1)), (2, .int (yw v2))]) (st' := [.int (yw v1), .ref v0]) rfl ?_
  refine xZ.callv (κ := oR) (av := [.int (yw v1)]) (rest := []) (st' := fun x1 => [.ref x1]) (k0 := v0) (me := xm143) hP_143 rfl (Or.inl rfl) ⟨rfl, by decide⟩ rfl rfl (Nat.le_of_ble_eq_true rfl) (by decide) hP_20 (Nat.le_of_ble_eq_true rfl) (fun _ => rfl) (k_f_Calendarhall_zoneNumbered O f (d + 2) v0 v1 M) (fun x1 M1 => ?_)
  refine xZ.adv (me := xm143) hP_143 2 (pc' := 7) (lv' := [(3, .ref x1), (0, .ref v0), (1, .int (yw v1)), (2, .int (yw v2))]) (st' := [.int (yw v2)]) rfl ?_
  refine xZ.calls (κ := oU) (av := [.int (yw v2)]) (rest := []) (st' := fun _ => []) (me := xm143) hP_143 rfl rfl rfl (Nat.le_of_ble_eq_true rfl) (by decide) hP_115 (Nat.le_of_ble_eq_true rfl) (fun _ => rfl) (k_f_Calendarhall_needMinute O f (d + 3) v2 M1) (fun _ M2 => ?_)
  refine xZ.adv (me := xm143) hP_143 2 (pc' := 12) (lv' := [(3, .ref x1), (0, .ref v0), (1, .int (yw v1)), (2, .int (yw v2))]) (st' := [.int (yw v2), .ref x1]) rfl ?_
  refine xZ.callv (κ := oJ) (av := [.int (yw v2)]) (rest := []) (st' := fun x3 => [.int (yw x3)]) (k0 := x1) (me := xm143) hP_143 rfl (Or.inl rfl) ⟨rfl, by decide⟩ rfl rfl (Nat.le_of_ble_eq_true rfl) (by decide) hP_135 (Nat.le_of_ble_eq_true rfl) (fun _ => rfl) (k_f_Zone_localOf O f (d + 0) x1 v2 M2) (fun x3 M3 => ?_)
  exact xZ.jreti (me := xm143) hP_143 rfl rfl
def f_Calendarhall_toCommon (O : Nat → Option va_E) (f : Nat) (v0 : Nat) (v1 : Int) (v2 : Int) (v3 : Int) (M : xM) : Option (Int × xM) :=
  (isO O M v0 12).bind fun _ =>
  xcl (f_Calendarhall_zoneNumbered O f v0 v1 M) fun x1 M1 =>
  xcl (f_Calendarhall_needMinute O f v2 M1) fun _ M2 =>
  if yw v3 = yw 0 then (
    (isO O M2 x1 11).bind fun _ =>
    xcl (f_Zone_firstOf O f x1 v2 M2) fun x3 M3 =>
    some (x3, M3)
  ) else
  (isO O M2 x1 11).bind fun _ =>
  xcl (f_Zone_secondOf O f x1 v2 M2) fun x4 M4 =>
  some (x4, M4)
set_option maxRecDepth 20000 in
theorem k_f_Calendarhall_toCommon (O : Nat → Option va_E) (f d : Nat) (v0 : Nat) (v1 : Int) (v2 : Int) (v3 : Int) (M : xM) : xZ oJ O (d + 4) 144 0 [(0, .ref v0), (1, .int (yw v1)), (2, .int (yw v2)), (3, .int (yw v3))] [] M (f_Calendarhall_toCommon O f v0 v1 v2 v3 M) := by
  unfold f_Calendarhall_toCommon
  refine xZ.adv (me := xm144) hP_144 2 (pc' := 2) (lv' := [(0, .ref v0), (1, .int (yw v1)), (2, .int (yw v2)), (3, .int (yw v3))]) (st' := [.int (yw v1), .ref v0]) rfl ?_
  refine xZ.callv (κ := oR) (av := [.int (yw v1)]) (rest := []) (st' := fun x1 => [.ref x1]) (k0 := v0) (me := xm144) hP_144 rfl (Or.inl rfl) ⟨rfl, by decide⟩ rfl rfl (Nat.le_of_ble_eq_true rfl) (by decide) hP_20 (Nat.le_of_ble_eq_true rfl) (fun _ => rfl) (k_f_Calendarhall_zoneNumbered O f (d + 2) v0 v1 M) (fun x1 M1 => ?_)
  refine xZ.adv (me := xm144) hP_144 2 (pc' := 8) (lv' := [(4, .ref x1), (0, .ref v0), (1, .int (yw v1)), (2, .int (yw v2)), (3, .int (yw v3))]) (st' := [.int (yw v2)]) rfl ?_
  refine xZ.calls (κ := oU) (av := [.int (yw v2)]) (rest := []) (st' := fun _ => []) (me := xm144) hP_144 rfl rfl rfl (Nat.le_of_ble_eq_true rfl) (by decide) hP_115 (Nat.le_of_ble_eq_true rfl) (fun _ => rfl) (k_f_Calendarhall_needMinute O f (d + 3) v2 M1) (fun _ M2 => ?_)
  refine xZ.adv (me := xm144) hP_144 1 (pc' := 12) (lv' := [(4, .ref x1), (0, .ref v0), (1, .int (yw v1)), (2, .int (yw v2)), (3, .int (yw v3))]) (st' := [.int (yw v3)]) rfl ?_
  refine xZ.jf_eq (me := xm144) hP_144 rfl (fun h1 => ?_) (fun h1 => ?_)
  · skip
    refine xZ.adv (me := xm144) hP_144 2 (pc' := 27) (lv' := [(4, .ref x1), (0, .ref v0), (1, .int (yw v1)), (2, .int (yw v2)), (3, .int (yw v3))]) (st' := [.int (yw v2), .ref x1]) rfl ?_
    refine xZ.callv (κ := oJ) (av := [.int (yw v2)]) (rest := []) (st' := fun x3 => [.int (yw x3)]) (k0 := x1) (me := xm144) hP_144 rfl (Or.inl rfl) ⟨rfl, by decide⟩ rfl rfl (Nat.le_of_ble_eq_true rfl) (by decide) hP_136 (Nat.le_of_ble_eq_true rfl) (fun _ => rfl) (k_f_Zone_firstOf O f (d + 0) x1 v2 M2) (fun x3 M3 => ?_)
    exact xZ.jreti (me := xm144) hP_144 rfl rfl
  · skip
    refine xZ.adv (me := xm144) hP_144 2 (pc' := 18) (lv' := [(4, .ref x1), (0, .ref v0), (1, .int (yw v1)), (2, .int (yw v2)), (3, .int (yw v3))]) (st' := [.int (yw v2), .ref x1]) rfl ?_
    refine xZ.callv (κ := oJ) (av := [.int (yw v2)]) (rest := []) (st' := fun x4 => [.int (yw x4)]) (k0 := x1) (me := xm144) hP_144 rfl (Or.inl rfl) ⟨rfl, by decide⟩ rfl rfl (Nat.le_of_ble_eq_true rfl) (by decide) hP_137 (Nat.le_of_ble_eq_true rfl) (fun _ => rfl) (k_f_Zone_secondOf O f (d + 0) x1 v2 M2) (fun x4 M4 => ?_)
    refine xZ.adv (me := xm144) hP_144 1 (pc' := 30) (lv' := [(4, .ref x1), (0, .ref v0), (1, .int (yw v1)), (2, .int (yw v2)), (3, .int (yw v3))]) (st' := [.int (yw x4)]) rfl ?_
    exact xZ.jreti (me := xm144) hP_144 rfl rfl
def f_Law_areZones_301 (O : Nat → Option va_E) (f : Nat) (K205 : Nat → Nat → Nat → Int → Int → Nat → Nat → Nat → Nat → Nat → Int → Int → xM → Option (Int × xM)) (v0 : Nat) (v1 : Nat) (v2 : Nat) (v3 : Int) (v4 : Int) (v5 : Nat) (v6 : Nat) (v7 : Nat) (v8 : Nat) (v9 : Nat) (v10 : Int) (v11 : Int) (v12 : Int) (M : xM) : Option (Int × xM) :=
  (aJ O M v8 v11).bind fun x1 =>
  (wJ M v9 v11 ((1440 * v12) + x1)).bind fun M1 =>
  K205 v0 v1 v2 v3 v4 v5 v6 v7 v8 v9 v10 (v11 + 1) M1
set_option maxRecDepth 20000 in
theorem k_f_Law_areZones_301 (O : Nat → Option va_E) (f d : Nat) (K205 : Nat → Nat → Nat → Int → Int → Nat → Nat → Nat → Nat → Nat → Int → Int → xM → Option (Int × xM)) (hK205 : ∀ (v0 : Nat) (v1 : Nat) (v2 : Nat) (v3 : Int) (v4 : Int) (v5 : Nat) (v6 : Nat) (v7 : Nat) (v8 : Nat) (v9 : Nat) (v10 : Int) (v11 : Int) M, xZ oJ O (d + 7) 138 205 [(0, .ref v0), (1, .ref v1), (2, .ref v2), (3, .int (yw v3)), (4, .int (yw v4)), (5, .ref v5), (6, .ref v6), (7, .ref v7), (8, .ref v8), (9, .ref v9), (10, .int (yw v10)), (11, .int (yw v11))] [] M (K205 v0 v1 v2 v3 v4 v5 v6 v7 v8 v9 v10 v11 M)) (v0 : Nat) (v1 : Nat) (v2 : Nat) (v3 : Int) (v4 : Int) (v5 : Nat) (v6 : Nat) (v7 : Nat) (v8 : Nat) (v9 : Nat) (v10 : Int) (v11 : Int) (v12 : Int) (M : xM) : xZ oJ O (d + 7) 138 301 [(0, .ref v0), (1, .ref v1), (2, .ref v2), (3, .int (yw v3)), (4, .int (yw v4)), (5, .ref v5), (6, .ref v6), (7, .ref v7), (8, .ref v8), (9, .ref v9), (10, .int (yw v10)), (11, .int (yw v11)), (12, .int (yw v12))] [] M (f_Law_areZones_301 O f K205 v0 v1 v2 v3 v4 v5 v6 v7 v8 v9 v10 v11 v12 M) := by
  unfold f_Law_areZones_301
  refine xZ.adv (me := xm138) hP_138 7 (pc' := 315) (lv' := [(0, .ref v0), (1, .ref v1), (2, .ref v2), (3, .int (yw v3)), (4, .int (yw v4)), (5, .ref v5), (6, .ref v6), (7, .ref v7), (8, .ref v8), (9, .ref v9), (10, .int (yw v10)), (11, .int (yw v11)), (12, .int (yw v12))]) (st' := [.int (yw v11), .ref v8, .int ((1440 : Int32) * (yw v12)), .int (yw v11), .ref v9]) rfl ?_
  refine xZ.eqs (lv2 := [(0, .ref v0), (1, .ref v1), (2, .ref v2), (3, .int (yw v3)), (4, .int (yw v4)), (5, .ref v5), (6, .ref v6), (7, .ref v7), (8, .ref v8), (9, .ref v9), (10, .int (yw v10)), (11, .int (yw v11)), (12, .int (yw v12))]) (st2 := [.int (yw v11), .ref v8, .int (yw (1440 * v12)), .int (yw v11), .ref v9]) rfl (by simp only [yl_lit, yL_lit, yw_add, yw_sub, yw_mul, yw_neg, yl_add, yl_sub, yl_mul, cj_and, cj_or, cj_xor, cj_shl, cj_shr, cj_ushr, cj_div, cj_i2c, cj_i2b, cj_dc, ck_and, ck_or, ck_xor, ck_shl, ck_shr, ck_ushr, ck_i2l, ck_l2i, ck_cmp]) ?_
  refine xZ.k_aJ (me := xm138) hP_138 rfl (fun x1 => ?_)
  refine xZ.adv (me := xm138) hP_138 1 (pc' := 317) (lv' := [(0, .ref v0), (1, .ref v1), (2, .ref v2), (3, .int (yw v3)), (4, .int (yw v4)), (5, .ref v5), (6, .ref v6), (7, .ref v7), (8, .ref v8), (9, .ref v9), (10, .int (yw v10)), (11, .int (yw v11)), (12, .int (yw v12))]) (st' := [.int ((yw (1440 * v12)) + (yw x1)), .int (yw v11), .ref v9]) rfl ?_
  refine xZ.eqs (lv2 := [(0, .ref v0), (1, .ref v1), (2, .ref v2), (3, .int (yw v3)), (4, .int (yw v4)), (5, .ref v5), (6, .ref v6), (7, .ref v7), (8, .ref v8), (9, .ref v9), (10, .int (yw v10)), (11, .int (yw v11)), (12, .int (yw v12))]) (st2 := [.int (yw ((1440 * v12) + x1)), .int (yw v11), .ref v9]) rfl (by simp only [yl_lit, yL_lit, yw_add, yw_sub, yw_mul, yw_neg, yl_add, yl_sub, yl_mul, cj_and, cj_or, cj_xor, cj_shl, cj_shr, cj_ushr, cj_div, cj_i2c, cj_i2b, cj_dc, ck_and, ck_or, ck_xor, ck_shl, ck_shr, ck_ushr, ck_i2l, ck_l2i, ck_cmp]) ?_
  refine xZ.k_wJ (me := xm138) hP_138 rfl (fun M1 => ?_)
  refine xZ.adv (me := xm138) hP_138 2 (pc' := 205) (lv' := [(11, .int ((yw v11) + (1 : Int32))), (0, .ref v0), (1, .ref v1), (2, .ref v2), (3, .int (yw v3)), (4, .int (yw v4)), (5, .ref v5), (6, .ref v6), (7, .ref v7), (8, .ref v8), (9, .ref v9), (10, .int (yw v10)), (12, .int (yw v12))]) (st' := []) rfl ?_
  refine xZ.eqs (lv2 := [(11, .int (yw (v11 + 1))), (0, .ref v0), (1, .ref v1), (2, .ref v2), (3, .int (yw v3)), (4, .int (yw v4)), (5, .ref v5), (6, .ref v6), (7, .ref v7), (8, .ref v8), (9, .ref v9), (10, .int (yw v10)), (12, .int (yw v12))]) (st2 := []) (by simp only [yl_lit, yL_lit, yw_add, yw_sub, yw_mul, yw_neg, yl_add, yl_sub, yl_mul, cj_and, cj_or, cj_xor, cj_shl, cj_shr, cj_ushr, cj_div, cj_i2c, cj_i2b, cj_dc, ck_and, ck_or, ck_xor, ck_shl, ck_shr, ck_ushr, ck_i2l, ck_l2i, ck_cmp]) rfl ?_
  exact xZ.sub (xsc (.tail _ (.head _)) (xsc (.tail _ (.tail _ (.head _))) (xsc (.tail _ (.tail _ (.tail _ (.head _)))) (xsc (.tail _ (.tail _ (.tail _ (.tail _ (.head _))))) (xsc (.tail _ (.tail _ (.tail _ (.tail _ (.tail _ (.head _)))))) (xsc (.tail _ (.tail _ (.tail _ (.tail _ (.tail _ (.tail _ (.head _))))))) (xsc (.tail _ (.tail _ (.tail _ (.tail _ (.tail _ (.tail _ (.tail _ (.head _)))))))) (xsc (.tail _ (.tail _ (.tail _ (.tail _ (.tail _ (.tail _ (.tail _ (.tail _ (.head _))))))))) (xsc (.tail _ (.tail _ (.tail _ (.tail _ (.tail _ (.tail _ (.tail _ (.tail _ (.tail _ (.head _)))))))))) (xsc (.tail _ (.tail _ (.tail _ (.tail _ (.tail _ (.tail _ (.tail _ (.tail _ (.tail _ (.tail _ (.head _))))))))))) (xsc (.tail _ (.tail _ (.tail _ (.tail _ (.tail _ (.tail _ (.tail _ (.tail _ (.tail _ (.tail _ (.tail _ (.head _)))))))))))) (xsc (.head _) xsn)))))))))))) (show ([11, 0, 1, 2, 3, 4, 5, 6, 7, 8, 9, 10, 12] : List Nat).Nodup from by decide) (hK205 v0 v1 v2 v3 v4 v5 v6 v7 v8 v9 v10 (v11 + 1) M1)
def f_Law_areZones_255 (O : Nat → Option va_E) (f : Nat) (K205 : Nat → Nat → Nat → Int → Int → Nat → Nat → Nat → Nat → Nat → Int → Int → xM → Option (Int × xM)) : Nat → Nat → Nat → Nat → Int → Int → Nat → Nat → Nat → Nat → Nat → Int → Int → Int → Int → xM → Option (Int × xM)
  | 0, _, _, _, _, _, _, _, _, _, _, _, _, _, _, _ => none
  | n + 1, v0, v1, v2, v3, v4, v5, v6, v7, v8, v9, v10, v11, v12, v13, M =>
    (gR O M v2 14 3).bind fun x1 =>
    (aJ O M x1 v12).bind fun x2 =>
    (aJ O M v7 v11).bind fun x3 =>
    if yw x2 = yw x3 then (
      (aJ O M v6 v11).bind fun x4 =>
      if yw (v12 + (7 * (x4 - 1))) ≤ yw v13 then (
        f_Law_areZones_301 O f K205 v0 v1 v2 v3 v4 v5 v6 v7 v8 v9 v10 v11 (v12 + (7 * (x4 - 1))) M
      ) else
      xlet ((v12 + (7 * (x4 - 1))) + (-7)) fun x5 =>
      f_Law_areZones_301 O f K205 v0 v1 v2 v3 v4 v5 v6 v7 v8 v9 v10 v11 x5 M
    ) else
    f_Law_areZones_255 O f K205 n v0 v1 v2 v3 v4 v5 v6 v7 v8 v9 v10 v11 (v12 + 1) v13 M
set_option maxRecDepth 20000 in
theorem k_f_Law_areZones_255 (O : Nat → Option va_E) (f d : Nat) (K205 : Nat → Nat → Nat → Int → Int → Nat → Nat → Nat → Nat → Nat → Int → Int → xM → Option (Int × xM)) (hK205 : ∀ (v0 : Nat) (v1 : Nat) (v2 : Nat) (v3 : Int) (v4 : Int) (v5 : Nat) (v6 : Nat) (v7 : Nat) (v8 : Nat) (v9 : Nat) (v10 : Int) (v11 : Int) M, xZ oJ O (d + 7) 138 205 [(0, .ref v0), (1, .ref v1), (2, .ref v2), (3, .int (yw v3)), (4, .int (yw v4)), (5, .ref v5), (6, .ref v6), (7, .ref v7), (8, .ref v8), (9, .ref v9), (10, .int (yw v10)), (11, .int (yw v11))] [] M (K205 v0 v1 v2 v3 v4 v5 v6 v7 v8 v9 v10 v11 M)) : ∀ (n : Nat) (v0 : Nat) (v1 : Nat) (v2 : Nat) (v3 : Int) (v4 : Int) (v5 : Nat) (v6 : Nat) (v7 : Nat) (v8 : Nat) (v9 : Nat) (v10 : Int) (v11 : Int) (v12 : Int) (v13 : Int) (M : xM), xZ oJ O (d + 7) 138 255 [(0, .ref v0), (1, .ref v1), (2, .ref v2), (3, .int (yw v3)), (4, .int (yw v4)), (5, .ref v5), (6, .ref v6), (7, .ref v7), (8, .ref v8), (9, .ref v9), (10, .int (yw v10)), (11, .int (yw v11)), (12, .int (yw v12)), (13, .int (yw v13))] [] M (f_Law_areZones_255 O f K205 n v0 v1 v2 v3 v4 v5 v6 v7 v8 v9 v10 v11 v12 v13 M) := by
  intro n
  induction n with
  | zero =>
    intro v0 v1 v2 v3 v4 v5 v6 v7 v8 v9 v10 v11 v12 v13 M
    exact xZ.no
  | succ n ih =>
    intro v0 v1 v2 v3 v4 v5 v6 v7 v8 v9 v10 v11 v12 v13 M
    unfold f_Law_areZones_255
    refine xZ.adv (me := xm138) hP_138 1 (pc' := 256) (lv' := [(0, .ref v0), (1, .ref v1), (2, .ref v2), (3, .int (yw v3)), (4, .int (yw v4)), (5, .ref v5), (6, .ref v6), (7, .ref v7), (8, .ref v8), (9, .ref v9), (10, .int (yw v10)), (11, .int (yw v11)), (12, .int (yw v12)), (13, .int (yw v13))]) (st' := [.ref v2]) rfl ?_
    refine xZ.k_gR (me := xm138) hP_138 rfl (fun x1 => ?_)
    refine xZ.adv (me := xm138) hP_138 1 (pc' := 261) (lv' := [(0, .ref v0), (1, .ref v1), (2, .ref v2), (3, .int (yw v3)), (4, .int (yw v4)), (5, .ref v5), (6, .ref v6), (7, .ref v7), (8, .ref v8), (9, .ref v9), (10, .int (yw v10)), (11, .int (yw v11)), (12, .int (yw v12)), (13, .int (yw v13))]) (st' := [.int (yw v12), .ref x1]) rfl ?_
    refine xZ.k_aJ (me := xm138) hP_138 rfl (fun x2 => ?_)
    refine xZ.adv (me := xm138) hP_138 2 (pc' := 266) (lv' := [(0, .ref v0), (1, .ref v1), (2, .ref v2), (3, .int (yw v3)), (4, .int (yw v4)), (5, .ref v5), (6, .ref v6), (7, .ref v7), (8, .ref v8), (9, .ref v9), (10, .int (yw v10)), (11, .int (yw v11)), (12, .int (yw v12)), (13, .int (yw v13))]) (st' := [.int (yw v11), .ref v7, .int (yw x2)]) rfl ?_
    refine xZ.k_aJ (me := xm138) hP_138 rfl (fun x3 => ?_)
    refine xZ.jc_eq (me := xm138) hP_138 rfl (fun h1 => ?_) (fun h1 => ?_)
    · skip
      refine xZ.adv (me := xm138) hP_138 4 (pc' := 284) (lv' := [(0, .ref v0), (1, .ref v1), (2, .ref v2), (3, .int (yw v3)), (4, .int (yw v4)), (5, .ref v5), (6, .ref v6), (7, .ref v7), (8, .ref v8), (9, .ref v9), (10, .int (yw v10)), (11, .int (yw v11)), (12, .int (yw v12)), (13, .int (yw v13))]) (st' := [.int (yw v11), .ref v6, .int (7 : Int32), .int (yw v12)]) rfl ?_
      refine xZ.eqs (lv2 := [(0, .ref v0), (1, .ref v1), (2, .ref v2), (3, .int (yw v3)), (4, .int (yw v4)), (5, .ref v5), (6, .ref v6), (7, .ref v7), (8, .ref v8), (9, .ref v9), (10, .int (yw v10)), (11, .int (yw v11)), (12, .int (yw v12)), (13, .int (yw v13))]) (st2 := [.int (yw v11), .ref v6, .int (yw 7), .int (yw v12)]) rfl (by simp only [yl_lit, yL_lit, yw_add, yw_sub, yw_mul, yw_neg, yl_add, yl_sub, yl_mul, cj_and, cj_or, cj_xor, cj_shl, cj_shr, cj_ushr, cj_div, cj_i2c, cj_i2b, cj_dc, ck_and, ck_or, ck_xor, ck_shl, ck_shr, ck_ushr, ck_i2l, ck_l2i, ck_cmp]) ?_
      refine xZ.k_aJ (me := xm138) hP_138 rfl (fun x4 => ?_)
      refine xZ.adv (me := xm138) hP_138 7 (pc' := 295) (lv' := [(12, .int ((yw v12) + ((yw 7) * ((yw x4) - (1 : Int32))))), (0, .ref v0), (1, .ref v1), (2, .ref v2), (3, .int (yw v3)), (4, .int (yw v4)), (5, .ref v5), (6, .ref v6), (7, .ref v7), (8, .ref v8), (9, .ref v9), (10, .int (yw v10)), (11, .int (yw v11)), (13, .int (yw v13))]) (st' := [.int (yw v13), .int ((yw v12) + ((yw 7) * ((yw x4) - (1 : Int32))))]) rfl ?_
      refine xZ.eqs (lv2 := [(12, .int (yw (v12 + (7 * (x4 - 1))))), (0, .ref v0), (1, .ref v1), (2, .ref v2), (3, .int (yw v3)), (4, .int (yw v4)), (5, .ref v5), (6, .ref v6), (7, .ref v7), (8, .ref v8), (9, .ref v9), (10, .int (yw v10)), (11, .int (yw v11)), (13, .int (yw v13))]) (st2 := [.int (yw v13), .int (yw (v12 + (7 * (x4 - 1))))]) (by simp only [yl_lit, yL_lit, yw_add, yw_sub, yw_mul, yw_neg, yl_add, yl_sub, yl_mul, cj_and, cj_or, cj_xor, cj_shl, cj_shr, cj_ushr, cj_div, cj_i2c, cj_i2b, cj_dc, ck_and, ck_or, ck_xor, ck_shl, ck_shr, ck_ushr, ck_i2l, ck_l2i, ck_cmp]) (by simp only [yl_lit, yL_lit, yw_add, yw_sub, yw_mul, yw_neg, yl_add, yl_sub, yl_mul, cj_and, cj_or, cj_xor, cj_shl, cj_shr, cj_ushr, cj_div, cj_i2c, cj_i2b, cj_dc, ck_and, ck_or, ck_xor, ck_shl, ck_shr, ck_ushr, ck_i2l, ck_l2i, ck_cmp]) ?_
      refine xZ.jc_le (me := xm138) hP_138 rfl (fun h2 => ?_) (fun h2 => ?_)
      · skip
        exact xZ.sub (xsc (.tail _ (.head _)) (xsc (.tail _ (.tail _ (.head _))) (xsc (.tail _ (.tail _ (.tail _ (.head _)))) (xsc (.tail _ (.tail _ (.tail _ (.tail _ (.head _))))) (xsc (.tail _ (.tail _ (.tail _ (.tail _ (.tail _ (.head _)))))) (xsc (.tail _ (.tail _ (.tail _ (.tail _ (.tail _ (.tail _ (.head _))))))) (xsc (.tail _ (.tail _ (.tail _ (.tail _ (.tail _ (.tail _ (.tail _ (.head _)))))))) (xsc (.tail _ (.tail _ (.tail _ (.tail _ (.tail _ (.tail _ (.tail _ (.tail _ (.head _))))))))) (xsc (.tail _ (.tail _ (.tail _ (.tail _ (.tail _ (.tail _ (.tail _ (.tail _ (.tail _ (.head _)))))))))) (xsc (.tail _ (.tail _ (.tail _ (.tail _ (.tail _ (.tail _ (.tail _ (.tail _ (.tail _ (.tail _ (.head _))))))))))) (xsc (.tail _ (.tail _ (.tail _ (.tail _ (.tail _ (.tail _ (.tail _ (.tail _ (.tail _ (.tail _ (.tail _ (.head _)))))))))))) (xsc (.tail _ (.tail _ (.tail _ (.tail _ (.tail _ (.tail _ (.tail _ (.tail _ (.tail _ (.tail _ (.tail _ (.tail _ (.head _))))))))))))) (xsc (.head _) xsn))))))))))))) (show ([12, 0, 1, 2, 3, 4, 5, 6, 7, 8, 9, 10, 11, 13] : List Nat).Nodup from by decide) (k_f_Law_areZones_301 O f d K205 hK205 v0 v1 v2 v3 v4 v5 v6 v7 v8 v9 v10 v11 (v12 + (7 * (x4 - 1))) M)
      · skip
        refine xZ.adv (me := xm138) hP_138 1 (pc' := 301) (lv' := [(12, .int ((yw (v12 + (7 * (x4 - 1)))) + (-7 : Int32))), (0, .ref v0), (1, .ref v1), (2, .ref v2), (3, .int (yw v3)), (4, .int (yw v4)), (5, .ref v5), (6, .ref v6), (7, .ref v7), (8, .ref v8), (9, .ref v9), (10, .int (yw v10)), (11, .int (yw v11)), (13, .int (yw v13))]) (st' := []) rfl ?_
        refine xZ.eqs (lv2 := [(12, .int (yw ((v12 + (7 * (x4 - 1))) + (-7)))), (0, .ref v0), (1, .ref v1), (2, .ref v2), (3, .int (yw v3)), (4, .int (yw v4)), (5, .ref v5), (6, .ref v6), (7, .ref v7), (8, .ref v8), (9, .ref v9), (10, .int (yw v10)), (11, .int (yw v11)), (13, .int (yw v13))]) (st2 := []) (by simp only [yl_lit, yL_lit, yw_add, yw_sub, yw_mul, yw_neg, yl_add, yl_sub, yl_mul, cj_and, cj_or, cj_xor, cj_shl, cj_shr, cj_ushr, cj_div, cj_i2c, cj_i2b, cj_dc, ck_and, ck_or, ck_xor, ck_shl, ck_shr, ck_ushr, ck_i2l, ck_l2i, ck_cmp]) rfl ?_
        refine xZ.letI (v := ((v12 + (7 * (x4 - 1))) + (-7))) (lvf := fun x5 => [(12, .int (yw x5)), (0, .ref v0), (1, .ref v1), (2, .ref v2), (3, .int (yw v3)), (4, .int (yw v4)), (5, .ref v5), (6, .ref v6), (7, .ref v7), (8, .ref v8), (9, .ref v9), (10, .int (yw v10)), (11, .int (yw v11)), (13, .int (yw v13))]) (stf := fun x5 => []) ?_
        intro x5
        exact xZ.sub (xsc (.tail _ (.head _)) (xsc (.tail _ (.tail _ (.head _))) (xsc (.tail _ (.tail _ (.tail _ (.head _)))) (xsc (.tail _ (.tail _ (.tail _ (.tail _ (.head _))))) (xsc (.tail _ (.tail _ (.tail _ (.tail _ (.tail _ (.head _)))))) (xsc (.tail _ (.tail _ (.tail _ (.tail _ (.tail _ (.tail _ (.head _))))))) (xsc (.tail _ (.tail _ (.tail _ (.tail _ (.tail _ (.tail _ (.tail _ (.head _)))))))) (xsc (.tail _ (.tail _ (.tail _ (.tail _ (.tail _ (.tail _ (.tail _ (.tail _ (.head _))))))))) (xsc (.tail _ (.tail _ (.tail _ (.tail _ (.tail _ (.tail _ (.tail _ (.tail _ (.tail _ (.head _)))))))))) (xsc (.tail _ (.tail _ (.tail _ (.tail _ (.tail _ (.tail _ (.tail _ (.tail _ (.tail _ (.tail _ (.head _))))))))))) (xsc (.tail _ (.tail _ (.tail _ (.tail _ (.tail _ (.tail _ (.tail _ (.tail _ (.tail _ (.tail _ (.tail _ (.head _)))))))))))) (xsc (.tail _ (.tail _ (.tail _ (.tail _ (.tail _ (.tail _ (.tail _ (.tail _ (.tail _ (.tail _ (.tail _ (.tail _ (.head _))))))))))))) (xsc (.head _) xsn))))))))))))) (show ([12, 0, 1, 2, 3, 4, 5, 6, 7, 8, 9, 10, 11, 13] : List Nat).Nodup from by decide) (k_f_Law_areZones_301 O f d K205 hK205 v0 v1 v2 v3 v4 v5 v6 v7 v8 v9 v10 v11 x5 M)
    · skip
      refine xZ.adv (me := xm138) hP_138 2 (pc' := 255) (lv' := [(12, .int ((yw v12) + (1 : Int32))), (0, .ref v0), (1, .ref v1), (2, .ref v2), (3, .int (yw v3)), (4, .int (yw v4)), (5, .ref v5), (6, .ref v6), (7, .ref v7), (8, .ref v8), (9, .ref v9), (10, .int (yw v10)), (11, .int (yw v11)), (13, .int (yw v13))]) (st' := []) rfl ?_
      refine xZ.eqs (lv2 := [(12, .int (yw (v12 + 1))), (0, .ref v0), (1, .ref v1), (2, .ref v2), (3, .int (yw v3)), (4, .int (yw v4)), (5, .ref v5), (6, .ref v6), (7, .ref v7), (8, .ref v8), (9, .ref v9), (10, .int (yw v10)), (11, .int (yw v11)), (13, .int (yw v13))]) (st2 := []) (by simp only [yl_lit, yL_lit, yw_add, yw_sub, yw_mul, yw_neg, yl_add, yl_sub, yl_mul, cj_and, cj_or, cj_xor, cj_shl, cj_shr, cj_ushr, cj_div, cj_i2c, cj_i2b, cj_dc, ck_and, ck_or, ck_xor, ck_shl, ck_shr, ck_ushr, ck_i2l, ck_l2i, ck_cmp]) rfl ?_
      exact xZ.sub (xsc (.tail _ (.head _)) (xsc (.tail _ (.tail _ (.head _))) (xsc (.tail _ (.tail _ (.tail _ (.head _)))) (xsc (.tail _ (.tail _ (.tail _ (.tail _ (.head _))))) (xsc (.tail _ (.tail _ (.tail _ (.tail _ (.tail _ (.head _)))))) (xsc (.tail _ (.tail _ (.tail _ (.tail _ (.tail _ (.tail _ (.head _))))))) (xsc (.tail _ (.tail _ (.tail _ (.tail _ (.tail _ (.tail _ (.tail _ (.head _)))))))) (xsc (.tail _ (.tail _ (.tail _ (.tail _ (.tail _ (.tail _ (.tail _ (.tail _ (.head _))))))))) (xsc (.tail _ (.tail _ (.tail _ (.tail _ (.tail _ (.tail _ (.tail _ (.tail _ (.tail _ (.head _)))))))))) (xsc (.tail _ (.tail _ (.tail _ (.tail _ (.tail _ (.tail _ (.tail _ (.tail _ (.tail _ (.tail _ (.head _))))))))))) (xsc (.tail _ (.tail _ (.tail _ (.tail _ (.tail _ (.tail _ (.tail _ (.tail _ (.tail _ (.tail _ (.tail _ (.head _)))))))))))) (xsc (.tail _ (.tail _ (.tail _ (.tail _ (.tail _ (.tail _ (.tail _ (.tail _ (.tail _ (.tail _ (.tail _ (.tail _ (.head _))))))))))))) (xsc (.head _) (xsc (.tail _ (.tail _ (.tail _ (.tail _ (.tail _ (.tail _ (.tail _ (.tail _ (.tail _ (.tail _ (.tail _ (.tail _ (.tail _ (.head _)))))))))))))) xsn)))))))))))))) (show ([12, 0, 1, 2, 3, 4, 5, 6, 7, 8, 9, 10, 11, 13] : List Nat).Nodup from by decide) (ih v0 v1 v2 v3 v4 v5 v6 v7 v8 v9 v10 v11 (v12 + 1) v13 M)
def f_Law_areZones_214 (O : Nat → Option va_E) (f : Nat) (K205 : Nat → Nat → Nat → Int → Int → Nat → Nat → Nat → Nat → Nat → Int → Int → xM → Option (Int × xM)) : Nat → Nat → Nat → Nat → Int → Int → Nat → Nat → Nat → Nat → Nat → Int → Int → Int → xM → Option (Int × xM)
  | 0, _, _, _, _, _, _, _, _, _, _, _, _, _, _ => none
  | n + 1, v0, v1, v2, v3, v4, v5, v6, v7, v8, v9, v10, v11, v12, M =>
    (gR O M v2 14 0).bind fun x1 =>
    (aJ O M x1 v12).bind fun x2 =>
    if yw x2 = yw v10 then (
      (gR O M v2 14 1).bind fun x3 =>
      (aJ O M x3 v12).bind fun x4 =>
      (aJ O M v5 v11).bind fun x5 =>
      if yw x4 = yw x5 then (
        (isO O M v2 14).bind fun _ =>
        xcl (f_LDays_last O f v2 v12 M) fun x6 M1 =>
        f_Law_areZones_255 O f K205 f v0 v1 v2 v3 v4 v5 v6 v7 v8 v9 v10 v11 v12 x6 M1
      ) else
      f_Law_areZones_214 O f K205 n v0 v1 v2 v3 v4 v5 v6 v7 v8 v9 v10 v11 (v12 + 1) M
    ) else
    f_Law_areZones_214 O f K205 n v0 v1 v2 v3 v4 v5 v6 v7 v8 v9 v10 v11 (v12 + 1) M
set_option maxRecDepth 20000 in
theorem k_f_Law_areZones_214 (O : Nat → Option va_E) (f d : Nat) (K205 : Nat → Nat → Nat → Int → Int → Nat → Nat → Nat → Nat → Nat → Int → Int → xM → Option (Int × xM)) (hK205 : ∀ (v0 : Nat) (v1 : Nat) (v2 : Nat) (v3 : Int) (v4 : Int) (v5 : Nat) (v6 : Nat) (v7 : Nat) (v8 : Nat) (v9 : Nat) (v10 : Int) (v11 : Int) M, xZ oJ O (d + 7) 138 205 [(0, .ref v0), (1, .ref v1), (2, .ref v2), (3, .int (yw v3)), (4, .int (yw v4)), (5, .ref v5), (6, .ref v6), (7, .ref v7), (8, .ref v8), (9, .ref v9), (10, .int (yw v10)), (11, .int (yw v11))] [] M (K205 v0 v1 v2 v3 v4 v5 v6 v7 v8 v9 v10 v11 M)) : ∀ (n : Nat) (v0 : Nat) (v1 : Nat) (v2 : Nat) (v3 : Int) (v4 : Int) (v5 : Nat) (v6 : Nat) (v7 : Nat) (v8 : Nat) (v9 : Nat) (v10 : Int) (v11 : Int) (v12 : Int) (M : xM), xZ oJ O (d + 7) 138 214 [(0, .ref v0), (1, .ref v1), (2, .ref v2), (3, .int (yw v3)), (4, .int (yw v4)), (5, .ref v5), (6, .ref v6), (7, .ref v7), (8, .ref v8), (9, .ref v9), (10, .int (yw v10)), (11, .int (yw v11)), (12, .int (yw v12))] [] M (f_Law_areZones_214 O f K205 n v0 v1 v2 v3 v4 v5 v6 v7 v8 v9 v10 v11 v12 M) := by
  intro n
  induction n with
  | zero =>
    intro v0 v1 v2 v3 v4 v5 v6 v7 v8 v9 v10 v11 v12 M
    exact xZ.no
  | succ n ih =>
    intro v0 v1 v2 v3 v4 v5 v6 v7 v8 v9 v10 v11 v12 M
    unfold f_Law_areZones_214
    refine xZ.adv (me := xm138) hP_138 1 (pc' := 215) (lv' := [(0, .ref v0), (1, .ref v1), (2, .ref v2), (3, .int (yw v3)), (4, .int (yw v4)), (5, .ref v5), (6, .ref v6), (7, .ref v7), (8, .ref v8), (9, .ref v9), (10, .int (yw v10)), (11, .int (yw v11)), (12, .int (yw v12))]) (st' := [.ref v2]) rfl ?_
    refine xZ.k_gR (me := xm138) hP_138 rfl (fun x1 => ?_)
    refine xZ.adv (me := xm138) hP_138 1 (pc' := 220) (lv' := [(0, .ref v0), (1, .ref v1), (2, .ref v2), (3, .int (yw v3)), (4, .int (yw v4)), (5, .ref v5), (6, .ref v6), (7, .ref v7), (8, .ref v8), (9, .ref v9), (10, .int (yw v10)), (11, .int (yw v11)), (12, .int (yw v12))]) (st' := [.int (yw v12), .ref x1]) rfl ?_
    refine xZ.k_aJ (me := xm138) hP_138 rfl (fun x2 => ?_)
    refine xZ.adv (me := xm138) hP_138 1 (pc' := 223) (lv' := [(0, .ref v0), (1, .ref v1), (2, .ref v2), (3, .int (yw v3)), (4, .int (yw v4)), (5, .ref v5), (6, .ref v6), (7, .ref v7), (8, .ref v8), (9, .ref v9), (10, .int (yw v10)), (11, .int (yw v11)), (12, .int (yw v12))]) (st' := [.int (yw v10), .int (yw x2)]) rfl ?_
    refine xZ.jc_ne (me := xm138) hP_138 rfl (fun h1 => ?_) (fun h1 => ?_)
    · skip
      refine xZ.adv (me := xm138) hP_138 1 (pc' := 227) (lv' := [(0, .ref v0), (1, .ref v1), (2, .ref v2), (3, .int (yw v3)), (4, .int (yw v4)), (5, .ref v5), (6, .ref v6), (7, .ref v7), (8, .ref v8), (9, .ref v9), (10, .int (yw v10)), (11, .int (yw v11)), (12, .int (yw v12))]) (st' := [.ref v2]) rfl ?_
      refine xZ.k_gR (me := xm138) hP_138 rfl (fun x3 => ?_)
      refine xZ.adv (me := xm138) hP_138 1 (pc' := 232) (lv' := [(0, .ref v0), (1, .ref v1), (2, .ref v2), (3, .int (yw v3)), (4, .int (yw v4)), (5, .ref v5), (6, .ref v6), (7, .ref v7), (8, .ref v8), (9, .ref v9), (10, .int (yw v10)), (11, .int (yw v11)), (12, .int (yw v12))]) (st' := [.int (yw v12), .ref x3]) rfl ?_
      refine xZ.k_aJ (me := xm138) hP_138 rfl (fun x4 => ?_)
      refine xZ.adv (me := xm138) hP_138 2 (pc' := 237) (lv' := [(0, .ref v0), (1, .ref v1), (2, .ref v2), (3, .int (yw v3)), (4, .int (yw v4)), (5, .ref v5), (6, .ref v6), (7, .ref v7), (8, .ref v8), (9, .ref v9), (10, .int (yw v10)), (11, .int (yw v11)), (12, .int (yw v12))]) (st' := [.int (yw v11), .ref v5, .int (yw x4)]) rfl ?_
      refine xZ.k_aJ (me := xm138) hP_138 rfl (fun x5 => ?_)
      refine xZ.jc_eq (me := xm138) hP_138 rfl (fun h2 => ?_) (fun h2 => ?_)
      · skip
        refine xZ.adv (me := xm138) hP_138 2 (pc' := 250) (lv' := [(0, .ref v0), (1, .ref v1), (2, .ref v2), (3, .int (yw v3)), (4, .int (yw v4)), (5, .ref v5), (6, .ref v6), (7, .ref v7), (8, .ref v8), (9, .ref v9), (10, .int (yw v10)), (11, .int (yw v11)), (12, .int (yw v12))]) (st' := [.int (yw v12), .ref v2]) rfl ?_
        refine xZ.callv (κ := oJ) (av := [.int (yw v12)]) (rest := []) (st' := fun x6 => [.int (yw x6)]) (k0 := v2) (me := xm138) hP_138 rfl (Or.inl rfl) ⟨rfl, by decide⟩ rfl rfl (Nat.le_of_ble_eq_true rfl) (by decide) hP_89 (Nat.le_of_ble_eq_true rfl) (fun _ => rfl) (k_f_LDays_last O f (d + 5) v2 v12 M) (fun x6 M1 => ?_)
        refine xZ.adv (me := xm138) hP_138 1 (pc' := 255) (lv' := [(13, .int (yw x6)), (0, .ref v0), (1, .ref v1), (2, .ref v2), (3, .int (yw v3)), (4, .int (yw v4)), (5, .ref v5), (6, .ref v6), (7, .ref v7), (8, .ref v8), (9, .ref v9), (10, .int (yw v10)), (11, .int (yw v11)), (12, .int (yw v12))]) (st' := []) rfl ?_
        exact xZ.sub (xsc (.tail _ (.head _)) (xsc (.tail _ (.tail _ (.head _))) (xsc (.tail _ (.tail _ (.tail _ (.head _)))) (xsc (.tail _ (.tail _ (.tail _ (.tail _ (.head _))))) (xsc (.tail _ (.tail _ (.tail _ (.tail _ (.tail _ (.head _)))))) (xsc (.tail _ (.tail _ (.tail _ (.tail _ (.tail _ (.tail _ (.head _))))))) (xsc (.tail _ (.tail _ (.tail _ (.tail _ (.tail _ (.tail _ (.tail _ (.head _)))))))) (xsc (.tail _ (.tail _ (.tail _ (.tail _ (.tail _ (.tail _ (.tail _ (.tail _ (.head _))))))))) (xsc (.tail _ (.tail _ (.tail _ (.tail _ (.tail _ (.tail _ (.tail _ (.tail _ (.tail _ (.head _)))))))))) (xsc (.tail _ (.tail _ (.tail _ (.tail _ (.tail _ (.tail _ (.tail _ (.tail _ (.tail _ (.tail _ (.head _))))))))))) (xsc (.tail _ (.tail _ (.tail _ (.tail _ (.tail _ (.tail _ (.tail _ (.tail _ (.tail _ (.tail _ (.tail _ (.head _)))))))))))) (xsc (.tail _ (.tail _ (.tail _ (.tail _ (.tail _ (.tail _ (.tail _ (.tail _ (.tail _ (.tail _ (.tail _ (.tail _ (.head _))))))))))))) (xsc (.tail _ (.tail _ (.tail _ (.tail _ (.tail _ (.tail _ (.tail _ (.tail _ (.tail _ (.tail _ (.tail _ (.tail _ (.tail _ (.head _)))))))))))))) (xsc (.head _) xsn)))))))))))))) (show ([13, 0, 1, 2, 3, 4, 5, 6, 7, 8, 9, 10, 11, 12] : List Nat).Nodup from by decide) (k_f_Law_areZones_255 O f d K205 hK205 f v0 v1 v2 v3 v4 v5 v6 v7 v8 v9 v10 v11 v12 x6 M1)
      · skip
        refine xZ.adv (me := xm138) hP_138 2 (pc' := 214) (lv' := [(12, .int ((yw v12) + (1 : Int32))), (0, .ref v0), (1, .ref v1), (2, .ref v2), (3, .int (yw v3)), (4, .int (yw v4)), (5, .ref v5), (6, .ref v6), (7, .ref v7), (8, .ref v8), (9, .ref v9), (10, .int (yw v10)), (11, .int (yw v11))]) (st' := []) rfl ?_
        refine xZ.eqs (lv2 := [(12, .int (yw (v12 + 1))), (0, .ref v0), (1, .ref v1), (2, .ref v2), (3, .int (yw v3)), (4, .int (yw v4)), (5, .ref v5), (6, .ref v6), (7, .ref v7), (8, .ref v8), (9, .ref v9), (10, .int (yw v10)), (11, .int (yw v11))]) (st2 := []) (by simp only [yl_lit, yL_lit, yw_add, yw_sub, yw_mul, yw_neg, yl_add, yl_sub, yl_mul, cj_and, cj_or, cj_xor, cj_shl, cj_shr, cj_ushr, cj_div, cj_i2c, cj_i2b, cj_dc, ck_and, ck_or, ck_xor, ck_shl, ck_shr, ck_ushr, ck_i2l, ck_l2i, ck_cmp]) rfl ?_
        exact xZ.sub (xsc (.tail _ (.head _)) (xsc (.tail _ (.tail _ (.head _))) (xsc (.tail _ (.tail _ (.tail _ (.head _)))) (xsc (.tail _ (.tail _ (.tail _ (.tail _ (.head _))))) (xsc (.tail _ (.tail _ (.tail _ (.tail _ (.tail _ (.head _)))))) (xsc (.tail _ (.tail _ (.tail _ (.tail _ (.tail _ (.tail _ (.head _))))))) (xsc (.tail _ (.tail _ (.tail _ (.tail _ (.tail _ (.tail _ (.tail _ (.head _)))))))) (xsc (.tail _ (.tail _ (.tail _ (.tail _ (.tail _ (.tail _ (.tail _ (.tail _ (.head _))))))))) (xsc (.tail _ (.tail _ (.tail _ (.tail _ (.tail _ (.tail _ (.tail _ (.tail _ (.tail _ (.head _)))))))))) (xsc (.tail _ (.tail _ (.tail _ (.tail _ (.tail _ (.tail _ (.tail _ (.tail _ (.tail _ (.tail _ (.head _))))))))))) (xsc (.tail _ (.tail _ (.tail _ (.tail _ (.tail _ (.tail _ (.tail _ (.tail _ (.tail _ (.tail _ (.tail _ (.head _)))))))))))) (xsc (.tail _ (.tail _ (.tail _ (.tail _ (.tail _ (.tail _ (.tail _ (.tail _ (.tail _ (.tail _ (.tail _ (.tail _ (.head _))))))))))))) (xsc (.head _) xsn))))))))))))) (show ([12, 0, 1, 2, 3, 4, 5, 6, 7, 8, 9, 10, 11] : List Nat).Nodup from by decide) (ih v0 v1 v2 v3 v4 v5 v6 v7 v8 v9 v10 v11 (v12 + 1) M)
    · skip
      refine xZ.adv (me := xm138) hP_138 2 (pc' := 214) (lv' := [(12, .int ((yw v12) + (1 : Int32))), (0, .ref v0), (1, .ref v1), (2, .ref v2), (3, .int (yw v3)), (4, .int (yw v4)), (5, .ref v5), (6, .ref v6), (7, .ref v7), (8, .ref v8), (9, .ref v9), (10, .int (yw v10)), (11, .int (yw v11))]) (st' := []) rfl ?_
      refine xZ.eqs (lv2 := [(12, .int (yw (v12 + 1))), (0, .ref v0), (1, .ref v1), (2, .ref v2), (3, .int (yw v3)), (4, .int (yw v4)), (5, .ref v5), (6, .ref v6), (7, .ref v7), (8, .ref v8), (9, .ref v9), (10, .int (yw v10)), (11, .int (yw v11))]) (st2 := []) (by simp only [yl_lit, yL_lit, yw_add, yw_sub, yw_mul, yw_neg, yl_add, yl_sub, yl_mul, cj_and, cj_or, cj_xor, cj_shl, cj_shr, cj_ushr, cj_div, cj_i2c, cj_i2b, cj_dc, ck_and, ck_or, ck_xor, ck_shl, ck_shr, ck_ushr, ck_i2l, ck_l2i, ck_cmp]) rfl ?_
      exact xZ.sub (xsc (.tail _ (.head _)) (xsc (.tail _ (.tail _ (.head _))) (xsc (.tail _ (.tail _ (.tail _ (.head _)))) (xsc (.tail _ (.tail _ (.tail _ (.tail _ (.head _))))) (xsc (.tail _ (.tail _ (.tail _ (.tail _ (.tail _ (.head _)))))) (xsc (.tail _ (.tail _ (.tail _ (.tail _ (.tail _ (.tail _ (.head _))))))) (xsc (.tail _ (.tail _ (.tail _ (.tail _ (.tail _ (.tail _ (.tail _ (.head _)))))))) (xsc (.tail _ (.tail _ (.tail _ (.tail _ (.tail _ (.tail _ (.tail _ (.tail _ (.head _))))))))) (xsc (.tail _ (.tail _ (.tail _ (.tail _ (.tail _ (.tail _ (.tail _ (.tail _ (.tail _ (.head _)))))))))) (xsc (.tail _ (.tail _ (.tail _ (.tail _ (.tail _ (.tail _ (.tail _ (.tail _ (.tail _ (.tail _ (.head _))))))))))) (xsc (.tail _ (.tail _ (.tail _ (.tail _ (.tail _ (.tail _ (.tail _ (.tail _ (.tail _ (.tail _ (.tail _ (.head _)))))))))))) (xsc (.tail _ (.tail _ (.tail _ (.tail _ (.tail _ (.tail _ (.tail _ (.tail _ (.tail _ (.tail _ (.tail _ (.tail _ (.head _))))))))))))) (xsc (.head _) xsn))))))))))))) (show ([12, 0, 1, 2, 3, 4, 5, 6, 7, 8, 9, 10, 11] : List Nat).Nodup from by decide) (ih v0 v1 v2 v3 v4 v5 v6 v7 v8 v9 v10 v11 (v12 + 1) M)
def f_Law_areZones_530 (O : Nat → Option va_E) (f : Nat) (K370 : Nat → Nat → Int → Int → Nat → Nat → Int → Int → Int → xM → Option (Int × xM)) (v0 : Nat) (v1 : Nat) (v3 : Int) (v4 : Int) (v5 : Nat) (v9 : Nat) (v11 : Int) (v12 : Int) (v13 : Int) (v14 : Int) (s0 : Int) (M : xM) : Option (Int × xM) :=
  (isO O M v0 12).bind fun _ =>
  xcl (f_Calendarhall_toLocal O f v0 1 (v14 - v3) M) fun x1 M1 =>
  if yw x1 = yw s0 then (
    (isO O M1 v0 12).bind fun _ =>
    xcl (f_Calendarhall_toCommon O f v0 1 s0 0 M1) fun x2 M2 =>
    if yw x2 = yw (v14 - v3) then (
      K370 v0 v1 v3 v4 v5 v9 v11 v12 (v13 + 1) M2
    ) else
    (isO O M2 v0 12).bind fun _ =>
    xcl (f_Calendarhall_toCommon O f v0 1 s0 1 M2) fun x3 M3 =>
    if yw x3 = yw (v14 - v3) then (
      K370 v0 v1 v3 v4 v5 v9 v11 v12 (v13 + 1) M3
    ) else
    some (0, M3)
  ) else
  some (0, M1)
set_option maxRecDepth 20000 in
theorem k_f_Law_areZones_530 (O : Nat → Option va_E) (f d : Nat) (K370 : Nat → Nat → Int → Int → Nat → Nat → Int → Int → Int → xM → Option (Int × xM)) (hK370 : ∀ (v0 : Nat) (v1 : Nat) (v3 : Int) (v4 : Int) (v5 : Nat) (v9 : Nat) (v11 : Int) (v12 : Int) (v13 : Int) M, xZ oJ O (d + 7) 138 370 [(0, .ref v0), (1, .ref v1), (3, .int (yw v3)), (4, .int (yw v4)), (5, .ref v5), (9, .ref v9), (11, .int (yw v11)), (12, .int (yw v12)), (13, .int (yw v13))] [] M (K370 v0 v1 v3 v4 v5 v9 v11 v12 v13 M)) (v0 : Nat) (v1 : Nat) (v3 : Int) (v4 : Int) (v5 : Nat) (v9 : Nat) (v11 : Int) (v12 : Int) (v13 : Int) (v14 : Int) (s0 : Int) (M : xM) : xZ oJ O (d + 7) 138 530 [(0, .ref v0), (1, .ref v1), (3, .int (yw v3)), (4, .int (yw v4)), (5, .ref v5), (9, .ref v9), (11, .int (yw v11)), (12, .int (yw v12)), (13, .int (yw v13)), (14, .int (yw v14))] [.int (yw s0)] M (f_Law_areZones_530 O f K370 v0 v1 v3 v4 v5 v9 v11 v12 v13 v14 s0 M) := by
  unfold f_Law_areZones_530
  refine xZ.adv (me := xm138) hP_138 6 (pc' := 538) (lv' := [(16, .int (yw s0)), (0, .ref v0), (1, .ref v1), (3, .int (yw v3)), (4, .int (yw v4)), (5, .ref v5), (9, .ref v9), (11, .int (yw v11)), (12, .int (yw v12)), (13, .int (yw v13)), (14, .int (yw v14))]) (st' := [.int ((yw v14) - (yw v3)), .int (1 : Int32), .ref v0]) rfl ?_
  refine xZ.eqs (lv2 := [(16, .int (yw s0)), (0, .ref v0), (1, .ref v1), (3, .int (yw v3)), (4, .int (yw v4)), (5, .ref v5), (9, .ref v9), (11, .int (yw v11)), (12, .int (yw v12)), (13, .int (yw v13)), (14, .int (yw v14))]) (st2 := [.int (yw (v14 - v3)), .int (yw 1), .ref v0]) rfl (by simp only [yl_lit, yL_lit, yw_add, yw_sub, yw_mul, yw_neg, yl_add, yl_sub, yl_mul, cj_and, cj_or, cj_xor, cj_shl, cj_shr, cj_ushr, cj_div, cj_i2c, cj_i2b, cj_dc, ck_and, ck_or, ck_xor, ck_shl, ck_shr, ck_ushr, ck_i2l, ck_l2i, ck_cmp]) ?_
  refine xZ.callv (κ := oJ) (av := [.int (yw 1), .int (yw (v14 - v3))]) (rest := []) (st' := fun x1 => [.int (yw x1)]) (k0 := v0) (me := xm138) hP_138 rfl (Or.inl rfl) ⟨rfl, by decide⟩ rfl rfl (Nat.le_of_ble_eq_true rfl) (by decide) hP_143 (Nat.le_of_ble_eq_true rfl) (fun _ => rfl) (k_f_Calendarhall_toLocal O f (d + 2) v0 1 (v14 - v3) M) (fun x1 M1 => ?_)
  refine xZ.adv (me := xm138) hP_138 1 (pc' := 543) (lv' := [(16, .int (yw s0)), (0, .ref v0), (1, .ref v1), (3, .int (yw v3)), (4, .int (yw v4)), (5, .ref v5), (9, .ref v9), (11, .int (yw v11)), (12, .int (yw v12)), (13, .int (yw v13)), (14, .int (yw v14))]) (st' := [.int (yw s0), .int (yw x1)]) rfl ?_
  refine xZ.jc_eq (me := xm138) hP_138 rfl (fun h1 => ?_) (fun h1 => ?_)
  · skip
    refine xZ.adv (me := xm138) hP_138 4 (pc' := 553) (lv' := [(16, .int (yw s0)), (0, .ref v0), (1, .ref v1), (3, .int (yw v3)), (4, .int (yw v4)), (5, .ref v5), (9, .ref v9), (11, .int (yw v11)), (12, .int (yw v12)), (13, .int (yw v13)), (14, .int (yw v14))]) (st' := [.int (0 : Int32), .int (yw s0), .int (1 : Int32), .ref v0]) rfl ?_
    refine xZ.eqs (lv2 := [(16, .int (yw s0)), (0, .ref v0), (1, .ref v1), (3, .int (yw v3)), (4, .int (yw v4)), (5, .ref v5), (9, .ref v9), (11, .int (yw v11)), (12, .int (yw v12)), (13, .int (yw v13)), (14, .int (yw v14))]) (st2 := [.int (yw 0), .int (yw s0), .int (yw 1), .ref v0]) rfl (by simp only [yl_lit, yL_lit, yw_add, yw_sub, yw_mul, yw_neg, yl_add, yl_sub, yl_mul, cj_and, cj_or, cj_xor, cj_shl, cj_shr, cj_ushr, cj_div, cj_i2c, cj_i2b, cj_dc, ck_and, ck_or, ck_xor, ck_shl, ck_shr, ck_ushr, ck_i2l, ck_l2i, ck_cmp]) ?_
    refine xZ.callv (κ := oJ) (av := [.int (yw 1), .int (yw s0), .int (yw 0)]) (rest := []) (st' := fun x2 => [.int (yw x2)]) (k0 := v0) (me := xm138) hP_138 rfl (Or.inl rfl) ⟨rfl, by decide⟩ rfl rfl (Nat.le_of_ble_eq_true rfl) (by decide) hP_144 (Nat.le_of_ble_eq_true rfl) (fun _ => rfl) (k_f_Calendarhall_toCommon O f (d + 2) v0 1 s0 0 M1) (fun x2 M2 => ?_)
    refine xZ.adv (me := xm138) hP_138 3 (pc' := 560) (lv' := [(16, .int (yw s0)), (0, .ref v0), (1, .ref v1), (3, .int (yw v3)), (4, .int (yw v4)), (5, .ref v5), (9, .ref v9), (11, .int (yw v11)), (12, .int (yw v12)), (13, .int (yw v13)), (14, .int (yw v14))]) (st' := [.int ((yw v14) - (yw v3)), .int (yw x2)]) rfl ?_
    refine xZ.eqs (lv2 := [(16, .int (yw s0)), (0, .ref v0), (1, .ref v1), (3, .int (yw v3)), (4, .int (yw v4)), (5, .ref v5), (9, .ref v9), (11, .int (yw v11)), (12, .int (yw v12)), (13, .int (yw v13)), (14, .int (yw v14))]) (st2 := [.int (yw (v14 - v3)), .int (yw x2)]) rfl (by simp only [yl_lit, yL_lit, yw_add, yw_sub, yw_mul, yw_neg, yl_add, yl_sub, yl_mul, cj_and, cj_or, cj_xor, cj_shl, cj_shr, cj_ushr, cj_div, cj_i2c, cj_i2b, cj_dc, ck_and, ck_or, ck_xor, ck_shl, ck_shr, ck_ushr, ck_i2l, ck_l2i, ck_cmp]) ?_
    refine xZ.jc_eq (me := xm138) hP_138 rfl (fun h2 => ?_) (fun h2 => ?_)
    · skip
      refine xZ.adv (me := xm138) hP_138 2 (pc' := 370) (lv' := [(13, .int ((yw v13) + (1 : Int32))), (16, .int (yw s0)), (0, .ref v0), (1, .ref v1), (3, .int (yw v3)), (4, .int (yw v4)), (5, .ref v5), (9, .ref v9), (11, .int (yw v11)), (12, .int (yw v12)), (14, .int (yw v14))]) (st' := []) rfl ?_
      refine xZ.eqs (lv2 := [(13, .int (yw (v13 + 1))), (16, .int (yw s0)), (0, .ref v0), (1, .ref v1), (3, .int (yw v3)), (4, .int (yw v4)), (5, .ref v5), (9, .ref v9), (11, .int (yw v11)), (12, .int (yw v12)), (14, .int (yw v14))]) (st2 := []) (by simp only [yl_lit, yL_lit, yw_add, yw_sub, yw_mul, yw_neg, yl_add, yl_sub, yl_mul, cj_and, cj_or, cj_xor, cj_shl, cj_shr, cj_ushr, cj_div, cj_i2c, cj_i2b, cj_dc, ck_and, ck_or, ck_xor, ck_shl, ck_shr, ck_ushr, ck_i2l, ck_l2i, ck_cmp]) rfl ?_
      exact xZ.sub (xsc (.tail _ (.tail _ (.head _))) (xsc (.tail _ (.tail _ (.tail _ (.head _)))) (xsc (.tail _ (.tail _ (.tail _ (.tail _ (.head _))))) (xsc (.tail _ (.tail _ (.tail _ (.tail _ (.tail _ (.head _)))))) (xsc (.tail _ (.tail _ (.tail _ (.tail _ (.tail _ (.tail _ (.head _))))))) (xsc (.tail _ (.tail _ (.tail _ (.tail _ (.tail _ (.tail _ (.tail _ (.head _)))))))) (xsc (.tail _ (.tail _ (.tail _ (.tail _ (.tail _ (.tail _ (.tail _ (.tail _ (.head _))))))))) (xsc (.tail _ (.tail _ (.tail _ (.tail _ (.tail _ (.tail _ (.tail _ (.tail _ (.tail _ (.head _)))))))))) (xsc (.head _) xsn))))))))) (show ([13, 16, 0, 1, 3, 4, 5, 9, 11, 12, 14] : List Nat).Nodup from by decide) (hK370 v0 v1 v3 v4 v5 v9 v11 v12 (v13 + 1) M2)
    · skip
      refine xZ.adv (me := xm138) hP_138 4 (pc' := 568) (lv' := [(16, .int (yw s0)), (0, .ref v0), (1, .ref v1), (3, .int (yw v3)), (4, .int (yw v4)), (5, .ref v5), (9, .ref v9), (11, .int (yw v11)), (12, .int (yw v12)), (13, .int (yw v13)), (14, .int (yw v14))]) (st' := [.int (1 : Int32), .int (yw s0), .int (1 : Int32), .ref v0]) rfl ?_
      refine xZ.eqs (lv2 := [(16, .int (yw s0)), (0, .ref v0), (1, .ref v1), (3, .int (yw v3)), (4, .int (yw v4)), (5, .ref v5), (9, .ref v9), (11, .int (yw v11)), (12, .int (yw v12)), (13, .int (yw v13)), (14, .int (yw v14))]) (st2 := [.int (yw 1), .int (yw s0), .int (yw 1), .ref v0]) rfl (by simp only [yl_lit, yL_lit, yw_add, yw_sub, yw_mul, yw_neg, yl_add, yl_sub, yl_mul, cj_and, cj_or, cj_xor, cj_shl, cj_shr, cj_ushr, cj_div, cj_i2c, cj_i2b, cj_dc, ck_and, ck_or, ck_xor, ck_shl, ck_shr, ck_ushr, ck_i2l, ck_l2i, ck_cmp]) ?_
      refine xZ.callv (κ := oJ) (av := [.int (yw 1), .int (yw s0), .int (yw 1)]) (rest := []) (st' := fun x3 => [.int (yw x3)]) (k0 := v0) (me := xm138) hP_138 rfl (Or.inl rfl) ⟨rfl, by decide⟩ rfl rfl (Nat.le_of_ble_eq_true rfl) (by decide) hP_144 (Nat.le_of_ble_eq_true rfl) (fun _ => rfl) (k_f_Calendarhall_toCommon O f (d + 2) v0 1 s0 1 M2) (fun x3 M3 => ?_)
      refine xZ.adv (me := xm138) hP_138 3 (pc' := 575) (lv' := [(16, .int (yw s0)), (0, .ref v0), (1, .ref v1), (3, .int (yw v3)), (4, .int (yw v4)), (5, .ref v5), (9, .ref v9), (11, .int (yw v11)), (12, .int (yw v12)), (13, .int (yw v13)), (14, .int (yw v14))]) (st' := [.int ((yw v14) - (yw v3)), .int (yw x3)]) rfl ?_
      refine xZ.eqs (lv2 := [(16, .int (yw s0)), (0, .ref v0), (1, .ref v1), (3, .int (yw v3)), (4, .int (yw v4)), (5, .ref v5), (9, .ref v9), (11, .int (yw v11)), (12, .int (yw v12)), (13, .int (yw v13)), (14, .int (yw v14))]) (st2 := [.int (yw (v14 - v3)), .int (yw x3)]) rfl (by simp only [yl_lit, yL_lit, yw_add, yw_sub, yw_mul, yw_neg, yl_add, yl_sub, yl_mul, cj_and, cj_or, cj_xor, cj_shl, cj_shr, cj_ushr, cj_div, cj_i2c, cj_i2b, cj_dc, ck_and, ck_or, ck_xor, ck_shl, ck_shr, ck_ushr, ck_i2l, ck_l2i, ck_cmp]) ?_
      refine xZ.jc_eq (me := xm138) hP_138 rfl (fun h3 => ?_) (fun h3 => ?_)
      · skip
        refine xZ.adv (me := xm138) hP_138 2 (pc' := 370) (lv' := [(13, .int ((yw v13) + (1 : Int32))), (16, .int (yw s0)), (0, .ref v0), (1, .ref v1), (3, .int (yw v3)), (4, .int (yw v4)), (5, .ref v5), (9, .ref v9), (11, .int (yw v11)), (12, .int (yw v12)), (14, .int (yw v14))]) (st' := []) rfl ?_
        refine xZ.eqs (lv2 := [(13, .int (yw (v13 + 1))), (16, .int (yw s0)), (0, .ref v0), (1, .ref v1), (3, .int (yw v3)), (4, .int (yw v4)), (5, .ref v5), (9, .ref v9), (11, .int (yw v11)), (12, .int (yw v12)), (14, .int (yw v14))]) (st2 := []) (by simp only [yl_lit, yL_lit, yw_add, yw_sub, yw_mul, yw_neg, yl_add, yl_sub, yl_mul, cj_and, cj_or, cj_xor, cj_shl, cj_shr, cj_ushr, cj_div, cj_i2c, cj_i2b, cj_dc, ck_and, ck_or, ck_xor, ck_shl, ck_shr, ck_ushr, ck_i2l, ck_l2i, ck_cmp]) rfl ?_
        exact xZ.sub (xsc (.tail _ (.tail _ (.head _))) (xsc (.tail _ (.tail _ (.tail _ (.head _)))) (xsc (.tail _ (.tail _ (.tail _ (.tail _ (.head _))))) (xsc (.tail _ (.tail _ (.tail _ (.tail _ (.tail _ (.head _)))))) (xsc (.tail _ (.tail _ (.tail _ (.tail _ (.tail _ (.tail _ (.head _))))))) (xsc (.tail _ (.tail _ (.tail _ (.tail _ (.tail _ (.tail _ (.tail _ (.head _)))))))) (xsc (.tail _ (.tail _ (.tail _ (.tail _ (.tail _ (.tail _ (.tail _ (.tail _ (.head _))))))))) (xsc (.tail _ (.tail _ (.tail _ (.tail _ (.tail _ (.tail _ (.tail _ (.tail _ (.tail _ (.head _)))))))))) (xsc (.head _) xsn))))))))) (show ([13, 16, 0, 1, 3, 4, 5, 9, 11, 12, 14] : List Nat).Nodup from by decide) (hK370 v0 v1 v3 v4 v5 v9 v11 v12 (v13 + 1) M3)
      · skip
        refine xZ.adv (me := xm138) hP_138 1 (pc' := 579) (lv' := [(16, .int (yw s0)), (0, .ref v0), (1, .ref v1), (3, .int (yw v3)), (4, .int (yw v4)), (5, .ref v5), (9, .ref v9), (11, .int (yw v11)), (12, .int (yw v12)), (13, .int (yw v13)), (14, .int (yw v14))]) (st' := [.int (0 : Int32)]) rfl ?_
        refine xZ.eqs (lv2 := [(16, .int (yw s0)), (0, .ref v0), (1, .ref v1), (3, .int (yw v3)), (4, .int (yw v4)), (5, .ref v5), (9, .ref v9), (11, .int (yw v11)), (12, .int (yw v12)), (13, .int (yw v13)), (14, .int (yw v14))]) (st2 := [.int (yw 0)]) rfl (by simp only [yl_lit, yL_lit, yw_add, yw_sub, yw_mul, yw_neg, yl_add, yl_sub, yl_mul, cj_and, cj_or, cj_xor, cj_shl, cj_shr, cj_ushr, cj_div, cj_i2c, cj_i2b, cj_dc, ck_and, ck_or, ck_xor, ck_shl, ck_shr, ck_ushr, ck_i2l, ck_l2i, ck_cmp]) ?_
        exact xZ.jrete (me := xm138) hP_138 rfl rfl rfl
  · skip
    refine xZ.adv (me := xm138) hP_138 1 (pc' := 547) (lv' := [(16, .int (yw s0)), (0, .ref v0), (1, .ref v1), (3, .int (yw v3)), (4, .int (yw v4)), (5, .ref v5), (9, .ref v9), (11, .int (yw v11)), (12, .int (yw v12)), (13, .int (yw v13)), (14, .int (yw v14))]) (st' := [.int (0 : Int32)]) rfl ?_
    refine xZ.eqs (lv2 := [(16, .int (yw s0)), (0, .ref v0), (1, .ref v1), (3, .int (yw v3)), (4, .int (yw v4)), (5, .ref v5), (9, .ref v9), (11, .int (yw v11)), (12, .int (yw v12)), (13, .int (yw v13)), (14, .int (yw v14))]) (st2 := [.int (yw 0)]) rfl (by simp only [yl_lit, yL_lit, yw_add, yw_sub, yw_mul, yw_neg, yl_add, yl_sub, yl_mul, cj_and, cj_or, cj_xor, cj_shl, cj_shr, cj_ushr, cj_div, cj_i2c, cj_i2b, cj_dc, ck_and, ck_or, ck_xor, ck_shl, ck_shr, ck_ushr, ck_i2l, ck_l2i, ck_cmp]) ?_
    exact xZ.jrete (me := xm138) hP_138 rfl rfl rfl
def f_Law_areZones_513 (O : Nat → Option va_E) (f : Nat) (K370 : Nat → Nat → Int → Int → Nat → Nat → Int → Int → Int → xM → Option (Int × xM)) (v0 : Nat) (v1 : Nat) (v3 : Int) (v4 : Int) (v5 : Nat) (v9 : Nat) (v11 : Int) (v12 : Int) (v13 : Int) (v14 : Int) (s0 : Int) (M : xM) : Option (Int × xM) :=
  if yw s0 = yw 0 then (
    f_Law_areZones_530 O f K370 v0 v1 v3 v4 v5 v9 v11 v12 v13 v14 v14 M
  ) else
  f_Law_areZones_530 O f K370 v0 v1 v3 v4 v5 v9 v11 v12 v13 v14 (v14 + v4) M
set_option maxRecDepth 20000 in
theorem k_f_Law_areZones_513 (O : Nat → Option va_E) (f d : Nat) (K370 : Nat → Nat → Int → Int → Nat → Nat → Int → Int → Int → xM → Option (Int × xM)) (hK370 : ∀ (v0 : Nat) (v1 : Nat) (v3 : Int) (v4 : Int) (v5 : Nat) (v9 : Nat) (v11 : Int) (v12 : Int) (v13 : Int) M, xZ oJ O (d + 7) 138 370 [(0, .ref v0), (1, .ref v1), (3, .int (yw v3)), (4, .int (yw v4)), (5, .ref v5), (9, .ref v9), (11, .int (yw v11)), (12, .int (yw v12)), (13, .int (yw v13))] [] M (K370 v0 v1 v3 v4 v5 v9 v11 v12 v13 M)) (v0 : Nat) (v1 : Nat) (v3 : Int) (v4 : Int) (v5 : Nat) (v9 : Nat) (v11 : Int) (v12 : Int) (v13 : Int) (v14 : Int) (s0 : Int) (M : xM) : xZ oJ O (d + 7) 138 513 [(0, .ref v0), (1, .ref v1), (3, .int (yw v3)), (4, .int (yw v4)), (5, .ref v5), (9, .ref v9), (11, .int (yw v11)), (12, .int (yw v12)), (13, .int (yw v13)), (14, .int (yw v14))] [.int (yw s0)] M (f_Law_areZones_513 O f K370 v0 v1 v3 v4 v5 v9 v11 v12 v13 v14 s0 M) := by
  unfold f_Law_areZones_513
  refine xZ.adv (me := xm138) hP_138 2 (pc' := 517) (lv' := [(15, .int (yw s0)), (0, .ref v0), (1, .ref v1), (3, .int (yw v3)), (4, .int (yw v4)), (5, .ref v5), (9, .ref v9), (11, .int (yw v11)), (12, .int (yw v12)), (13, .int (yw v13)), (14, .int (yw v14))]) (st' := [.int (yw s0)]) rfl ?_
  refine xZ.jf_eq (me := xm138) hP_138 rfl (fun h1 => ?_) (fun h1 => ?_)
  · skip
    refine xZ.adv (me := xm138) hP_138 1 (pc' := 530) (lv' := [(15, .int (yw s0)), (0, .ref v0), (1, .ref v1), (3, .int (yw v3)), (4, .int (yw v4)), (5, .ref v5), (9, .ref v9), (11, .int (yw v11)), (12, .int (yw v12)), (13, .int (yw v13)), (14, .int (yw v14))]) (st' := [.int (yw v14)]) rfl ?_
    exact xZ.sub (xsc (.tail _ (.head _)) (xsc (.tail _ (.tail _ (.head _))) (xsc (.tail _ (.tail _ (.tail _ (.head _)))) (xsc (.tail _ (.tail _ (.tail _ (.tail _ (.head _))))) (xsc (.tail _ (.tail _ (.tail _ (.tail _ (.tail _ (.head _)))))) (xsc (.tail _ (.tail _ (.tail _ (.tail _ (.tail _ (.tail _ (.head _))))))) (xsc (.tail _ (.tail _ (.tail _ (.tail _ (.tail _ (.tail _ (.tail _ (.head _)))))))) (xsc (.tail _ (.tail _ (.tail _ (.tail _ (.tail _ (.tail _ (.tail _ (.tail _ (.head _))))))))) (xsc (.tail _ (.tail _ (.tail _ (.tail _ (.tail _ (.tail _ (.tail _ (.tail _ (.tail _ (.head _)))))))))) (xsc (.tail _ (.tail _ (.tail _ (.tail _ (.tail _ (.tail _ (.tail _ (.tail _ (.tail _ (.tail _ (.head _))))))))))) xsn)))))))))) (show ([15, 0, 1, 3, 4, 5, 9, 11, 12, 13, 14] : List Nat).Nodup from by decide) (k_f_Law_areZones_530 O f d K370 hK370 v0 v1 v3 v4 v5 v9 v11 v12 v13 v14 v14 M)
  · skip
    refine xZ.adv (me := xm138) hP_138 4 (pc' := 530) (lv' := [(15, .int (yw s0)), (0, .ref v0), (1, .ref v1), (3, .int (yw v3)), (4, .int (yw v4)), (5, .ref v5), (9, .ref v9), (11, .int (yw v11)), (12, .int (yw v12)), (13, .int (yw v13)), (14, .int (yw v14))]) (st' := [.int ((yw v14) + (yw v4))]) rfl ?_
    refine xZ.eqs (lv2 := [(15, .int (yw s0)), (0, .ref v0), (1, .ref v1), (3, .int (yw v3)), (4, .int (yw v4)), (5, .ref v5), (9, .ref v9), (11, .int (yw v11)), (12, .int (yw v12)), (13, .int (yw v13)), (14, .int (yw v14))]) (st2 := [.int (yw (v14 + v4))]) rfl (by simp only [yl_lit, yL_lit, yw_add, yw_sub, yw_mul, yw_neg, yl_add, yl_sub, yl_mul, cj_and, cj_or, cj_xor, cj_shl, cj_shr, cj_ushr, cj_div, cj_i2c, cj_i2b, cj_dc, ck_and, ck_or, ck_xor, ck_shl, ck_shr, ck_ushr, ck_i2l, ck_l2i, ck_cmp]) ?_
    exact xZ.sub (xsc (.tail _ (.head _)) (xsc (.tail _ (.tail _ (.head _))) (xsc (.tail _ (.tail _ (.tail _ (.head _)))) (xsc (.tail _ (.tail _ (.tail _ (.tail _ (.head _))))) (xsc (.tail _ (.tail _ (.tail _ (.tail _ (.tail _ (.head _)))))) (xsc (.tail _ (.tail _ (.tail _ (.tail _ (.tail _ (.tail _ (.head _))))))) (xsc (.tail _ (.tail _ (.tail _ (.tail _ (.tail _ (.tail _ (.tail _ (.head _)))))))) (xsc (.tail _ (.tail _ (.tail _ (.tail _ (.tail _ (.tail _ (.tail _ (.tail _ (.head _))))))))) (xsc (.tail _ (.tail _ (.tail _ (.tail _ (.tail _ (.tail _ (.tail _ (.tail _ (.tail _ (.head _)))))))))) (xsc (.tail _ (.tail _ (.tail _ (.tail _ (.tail _ (.tail _ (.tail _ (.tail _ (.tail _ (.tail _ (.head _))))))))))) xsn)))))))))) (show ([15, 0, 1, 3, 4, 5, 9, 11, 12, 13, 14] : List Nat).Nodup from by decide) (k_f_Law_areZones_530 O f d K370 hK370 v0 v1 v3 v4 v5 v9 v11 v12 v13 v14 (v14 + v4) M)
def f_Law_areZones_512 (O : Nat → Option va_E) (f : Nat) (K370 : Nat → Nat → Int → Int → Nat → Nat → Int → Int → Int → xM → Option (Int × xM)) (v0 : Nat) (v1 : Nat) (v3 : Int) (v4 : Int) (v5 : Nat) (v9 : Nat) (v11 : Int) (v12 : Int) (v13 : Int) (v14 : Int) (M : xM) : Option (Int × xM) :=
  f_Law_areZones_513 O f K370 v0 v1 v3 v4 v5 v9 v11 v12 v13 v14 0 M
set_option maxRecDepth 20000 in
theorem k_f_Law_areZones_512 (O : Nat → Option va_E) (f d : Nat) (K370 : Nat → Nat → Int → Int → Nat → Nat → Int → Int → Int → xM → Option (Int × xM)) (hK370 : ∀ (v0 : Nat) (v1 : Nat) (v3 : Int) (v4 : Int) (v5 : Nat) (v9 : Nat) (v11 : Int) (v12 : Int) (v13 : Int) M, xZ oJ O (d + 7) 138 370 [(0, .ref v0), (1, .ref v1), (3, .int (yw v3)), (4, .int (yw v4)), (5, .ref v5), (9, .ref v9), (11, .int (yw v11)), (12, .int (yw v12)), (13, .int (yw v13))] [] M (K370 v0 v1 v3 v4 v5 v9 v11 v12 v13 M)) (v0 : Nat) (v1 : Nat) (v3 : Int) (v4 : Int) (v5 : Nat) (v9 : Nat) (v11 : Int) (v12 : Int) (v13 : Int) (v14 : Int) (M : xM) : xZ oJ O (d + 7) 138 512 [(0, .ref v0), (1, .ref v1), (3, .int (yw v3)), (4, .int (yw v4)), (5, .ref v5), (9, .ref v9), (11, .int (yw v11)), (12, .int (yw v12)), (13, .int (yw v13)), (14, .int (yw v14))] [] M (f_Law_areZones_512 O f K370 v0 v1 v3 v4 v5 v9 v11 v12 v13 v14 M) := by
  unfold f_Law_areZones_512
  refine xZ.adv (me := xm138) hP_138 1 (pc' := 513) (lv' := [(0, .ref v0), (1, .ref v1), (3, .int (yw v3)), (4, .int (yw v4)), (5, .ref v5), (9, .ref v9), (11, .int (yw v11)), (12, .int (yw v12)), (13, .int (yw v13)), (14, .int (yw v14))]) (st' := [.int (0 : Int32)]) rfl ?_
  refine xZ.eqs (lv2 := [(0, .ref v0), (1, .ref v1), (3, .int (yw v3)), (4, .int (yw v4)), (5, .ref v5), (9, .ref v9), (11, .int (yw v11)), (12, .int (yw v12)), (13, .int (yw v13)), (14, .int (yw v14))]) (st2 := [.int (yw 0)]) rfl (by simp only [yl_lit, yL_lit, yw_add, yw_sub, yw_mul, yw_neg, yl_add, yl_sub, yl_mul, cj_and, cj_or, cj_xor, cj_shl, cj_shr, cj_ushr, cj_div, cj_i2c, cj_i2b, cj_dc, ck_and, ck_or, ck_xor, ck_shl, ck_shr, ck_ushr, ck_i2l, ck_l2i, ck_cmp]) ?_
  exact (k_f_Law_areZones_513 O f d K370 hK370 v0 v1 v3 v4 v5 v9 v11 v12 v13 v14 0 M)
def f_Law_areZones_508 (O : Nat → Option va_E) (f : Nat) (K370 : Nat → Nat → Int → Int → Nat → Nat → Int → Int → Int → xM → Option (Int × xM)) (v0 : Nat) (v1 : Nat) (v3 : Int) (v4 : Int) (v5 : Nat) (v9 : Nat) (v11 : Int) (v12 : Int) (v13 : Int) (v14 : Int) (M : xM) : Option (Int × xM) :=
  f_Law_areZones_513 O f K370 v0 v1 v3 v4 v5 v9 v11 v12 v13 v14 1 M
set_option maxRecDepth 20000 in
theorem k_f_Law_areZones_508 (O : Nat → Option va_E) (f d : Nat) (K370 : Nat → Nat → Int → Int → Nat → Nat → Int → Int → Int → xM → Option (Int × xM)) (hK370 : ∀ (v0 : Nat) (v1 : Nat) (v3 : Int) (v4 : Int) (v5 : Nat) (v9 : Nat) (v11 : Int) (v12 : Int) (v13 : Int) M, xZ oJ O (d + 7) 138 370 [(0, .ref v0), (1, .ref v1), (3, .int (yw v3)), (4, .int (yw v4)), (5, .ref v5), (9, .ref v9), (11, .int (yw v11)), (12, .int (yw v12)), (13, .int (yw v13))] [] M (K370 v0 v1 v3 v4 v5 v9 v11 v12 v13 M)) (v0 : Nat) (v1 : Nat) (v3 : Int) (v4 : Int) (v5 : Nat) (v9 : Nat) (v11 : Int) (v12 : Int) (v13 : Int) (v14 : Int) (M : xM) : xZ oJ O (d + 7) 138 508 [(0, .ref v0), (1, .ref v1), (3, .int (yw v3)), (4, .int (yw v4)), (5, .ref v5), (9, .ref v9), (11, .int (yw v11)), (12, .int (yw v12)), (13, .int (yw v13)), (14, .int (yw v14))] [] M (f_Law_areZones_508 O f K370 v0 v1 v3 v4 v5 v9 v11 v12 v13 v14 M) := by
  unfold f_Law_areZones_508
  refine xZ.adv (me := xm138) hP_138 2 (pc' := 513) (lv' := [(0, .ref v0), (1, .ref v1), (3, .int (yw v3)), (4, .int (yw v4)), (5, .ref v5), (9, .ref v9), (11, .int (yw v11)), (12, .int (yw v12)), (13, .int (yw v13)), (14, .int (yw v14))]) (st' := [.int (1 : Int32)]) rfl ?_
  refine xZ.eqs (lv2 := [(0, .ref v0), (1, .ref v1), (3, .int (yw v3)), (4, .int (yw v4)), (5, .ref v5), (9, .ref v9), (11, .int (yw v11)), (12, .int (yw v12)), (13, .int (yw v13)), (14, .int (yw v14))]) (st2 := [.int (yw 1)]) rfl (by simp only [yl_lit, yL_lit, yw_add, yw_sub, yw_mul, yw_neg, yl_add, yl_sub, yl_mul, cj_and, cj_or, cj_xor, cj_shl, cj_shr, cj_ushr, cj_div, cj_i2c, cj_i2b, cj_dc, ck_and, ck_or, ck_xor, ck_shl, ck_shr, ck_ushr, ck_i2l, ck_l2i, ck_cmp]) ?_
  exact (k_f_Law_areZones_513 O f d K370 hK370 v0 v1 v3 v4 v5 v9 v11 v12 v13 v14 1 M)
def f_Law_areZones_426 (O : Nat → Option va_E) (f : Nat) (K370 : Nat → Nat → Int → Int → Nat → Nat → Int → Int → Int → xM → Option (Int × xM)) (v0 : Nat) (v1 : Nat) (v3 : Int) (v4 : Int) (v5 : Nat) (v9 : Nat) (v11 : Int) (v12 : Int) (v13 : Int) (s0 : Int) (M : xM) : Option (Int × xM) :=
  if yw s0 < yw (1440 * v11) then (
    K370 v0 v1 v3 v4 v5 v9 v11 v12 (v13 + 1) M
  ) else
  if yw s0 < yw (1440 * v12) then (
    if yw v4 ≤ yw 0 then (
      f_Law_areZones_512 O f K370 v0 v1 v3 v4 v5 v9 v11 v12 v13 s0 M
    ) else
    (aJ O M v5 0).bind fun x1 =>
    (aJ O M v5 1).bind fun x2 =>
    if yw x2 ≤ yw x1 then (
      (aJ O M v9 0).bind fun x3 =>
      if yw x3 ≤ yw s0 then (
        f_Law_areZones_508 O f K370 v0 v1 v3 v4 v5 v9 v11 v12 v13 s0 M
      ) else
      (aJ O M v9 1).bind fun x4 =>
      if yw x4 ≤ yw s0 then (
        f_Law_areZones_512 O f K370 v0 v1 v3 v4 v5 v9 v11 v12 v13 s0 M
      ) else
      f_Law_areZones_508 O f K370 v0 v1 v3 v4 v5 v9 v11 v12 v13 s0 M
    ) else
    (aJ O M v9 0).bind fun x5 =>
    if yw s0 < yw x5 then (
      f_Law_areZones_512 O f K370 v0 v1 v3 v4 v5 v9 v11 v12 v13 s0 M
    ) else
    (aJ O M v9 1).bind fun x6 =>
    if yw x6 ≤ yw s0 then (
      f_Law_areZones_512 O f K370 v0 v1 v3 v4 v5 v9 v11 v12 v13 s0 M
    ) else
    f_Law_areZones_508 O f K370 v0 v1 v3 v4 v5 v9 v11 v12 v13 s0 M
  ) else
  K370 v0 v1 v3 v4 v5 v9 v11 v12 (v13 + 1) M
set_option maxRecDepth 20000 in
theorem k_f_Law_areZones_426 (O : Nat → Option va_E) (f d : Nat) (K370 : Nat → Nat → Int → Int → Nat → Nat → Int → Int → Int → xM → Option (Int × xM)) (hK370 : ∀ (v0 : Nat) (v1 : Nat) (v3 : Int) (v4 : Int) (v5 : Nat) (v9 : Nat) (v11 : Int) (v12 : Int) (v13 : Int) M, xZ oJ O (d + 7) 138 370 [(0, .ref v0), (1, .ref v1), (3, .int (yw v3)), (4, .int (yw v4)), (5, .ref v5), (9, .ref v9), (11, .int (yw v11)), (12, .int (yw v12)), (13, .int (yw v13))] [] M (K370 v0 v1 v3 v4 v5 v9 v11 v12 v13 M)) (v0 : Nat) (v1 : Nat) (v3 : Int) (v4 : Int) (v5 : Nat) (v9 : Nat) (v11 : Int) (v12 : Int) (v13 : Int) (s0 : Int) (M : xM) : xZ oJ O (d + 7) 138 426 [(0, .ref v0), (1, .ref v1), (3, .int (yw v3)), (4, .int (yw v4)), (5, .ref v5), (9, .ref v9), (11, .int (yw v11)), (12, .int (yw v12)), (13, .int (yw v13))] [.int (yw s0)] M (f_Law_areZones_426 O f K370 v0 v1 v3 v4 v5 v9 v11 v12 v13 s0 M) := by
  unfold f_Law_areZones_426
  refine xZ.adv (me := xm138) hP_138 5 (pc' := 436) (lv' := [(14, .int (yw s0)), (0, .ref v0), (1, .ref v1), (3, .int (yw v3)), (4, .int (yw v4)), (5, .ref v5), (9, .ref v9), (11, .int (yw v11)), (12, .int (yw v12)), (13, .int (yw v13))]) (st' := [.int ((1440 : Int32) * (yw v11)), .int (yw s0)]) rfl ?_
  refine xZ.eqs (lv2 := [(14, .int (yw s0)), (0, .ref v0), (1, .ref v1), (3, .int (yw v3)), (4, .int (yw v4)), (5, .ref v5), (9, .ref v9), (11, .int (yw v11)), (12, .int (yw v12)), (13, .int (yw v13))]) (st2 := [.int (yw (1440 * v11)), .int (yw s0)]) rfl (by simp only [yl_lit, yL_lit, yw_add, yw_sub, yw_mul, yw_neg, yl_add, yl_sub, yl_mul, cj_and, cj_or, cj_xor, cj_shl, cj_shr, cj_ushr, cj_div, cj_i2c, cj_i2b, cj_dc, ck_and, ck_or, ck_xor, ck_shl, ck_shr, ck_ushr, ck_i2l, ck_l2i, ck_cmp]) ?_
  refine xZ.jc_lt (me := xm138) hP_138 rfl (fun h1 => ?_) (fun h1 => ?_)
  · skip
    refine xZ.adv (me := xm138) hP_138 2 (pc' := 370) (lv' := [(13, .int ((yw v13) + (1 : Int32))), (14, .int (yw s0)), (0, .ref v0), (1, .ref v1), (3, .int (yw v3)), (4, .int (yw v4)), (5, .ref v5), (9, .ref v9), (11, .int (yw v11)), (12, .int (yw v12))]) (st' := []) rfl ?_
    refine xZ.eqs (lv2 := [(13, .int (yw (v13 + 1))), (14, .int (yw s0)), (0, .ref v0), (1, .ref v1), (3, .int (yw v3)), (4, .int (yw v4)), (5, .ref v5), (9, .ref v9), (11, .int (yw v11)), (12, .int (yw v12))]) (st2 := []) (by simp only [yl_lit, yL_lit, yw_add, yw_sub, yw_mul, yw_neg, yl_add, yl_sub, yl_mul, cj_and, cj_or, cj_xor, cj_shl, cj_shr, cj_ushr, cj_div, cj_i2c, cj_i2b, cj_dc, ck_and, ck_or, ck_xor, ck_shl, ck_shr, ck_ushr, ck_i2l, ck_l2i, ck_cmp]) rfl ?_
    exact xZ.sub (xsc (.tail _ (.tail _ (.head _))) (xsc (.tail _ (.tail _ (.tail _ (.head _)))) (xsc (.tail _ (.tail _ (.tail _ (.tail _ (.head _))))) (xsc (.tail _ (.tail _ (.tail _ (.tail _ (.tail _ (.head _)))))) (xsc (.tail _ (.tail _ (.tail _ (.tail _ (.tail _ (.tail _ (.head _))))))) (xsc (.tail _ (.tail _ (.tail _ (.tail _ (.tail _ (.tail _ (.tail _ (.head _)))))))) (xsc (.tail _ (.tail _ (.tail _ (.tail _ (.tail _ (.tail _ (.tail _ (.tail _ (.head _))))))))) (xsc (.tail _ (.tail _ (.tail _ (.tail _ (.tail _ (.tail _ (.tail _ (.tail _ (.tail _ (.head _)))))))))) (xsc (.head _) xsn))))))))) (show ([13, 14, 0, 1, 3, 4, 5, 9, 11, 12] : List Nat).Nodup from by decide) (hK370 v0 v1 v3 v4 v5 v9 v11 v12 (v13 + 1) M)
  · skip
    refine xZ.adv (me := xm138) hP_138 4 (pc' := 447) (lv' := [(14, .int (yw s0)), (0, .ref v0), (1, .ref v1), (3, .int (yw v3)), (4, .int (yw v4)), (5, .ref v5), (9, .ref v9), (11, .int (yw v11)), (12, .int (yw v12)), (13, .int (yw v13))]) (st' := [.int ((1440 : Int32) * (yw v12)), .int (yw s0)]) rfl ?_
    refine xZ.eqs (lv2 := [(14, .int (yw s0)), (0, .ref v0), (1, .ref v1), (3, .int (yw v3)), (4, .int (yw v4)), (5, .ref v5), (9, .ref v9), (11, .int (yw v11)), (12, .int (yw v12)), (13, .int (yw v13))]) (st2 := [.int (yw (1440 * v12)), .int (yw s0)]) rfl (by simp only [yl_lit, yL_lit, yw_add, yw_sub, yw_mul, yw_neg, yl_add, yl_sub, yl_mul, cj_and, cj_or, cj_xor, cj_shl, cj_shr, cj_ushr, cj_div, cj_i2c, cj_i2b, cj_dc, ck_and, ck_or, ck_xor, ck_shl, ck_shr, ck_ushr, ck_i2l, ck_l2i, ck_cmp]) ?_
    refine xZ.jc_lt (me := xm138) hP_138 rfl (fun h2 => ?_) (fun h2 => ?_)
    · skip
      refine xZ.adv (me := xm138) hP_138 1 (pc' := 455) (lv' := [(14, .int (yw s0)), (0, .ref v0), (1, .ref v1), (3, .int (yw v3)), (4, .int (yw v4)), (5, .ref v5), (9, .ref v9), (11, .int (yw v11)), (12, .int (yw v12)), (13, .int (yw v13))]) (st' := [.int (yw v4)]) rfl ?_
      refine xZ.jf_le (me := xm138) hP_138 rfl (fun h3 => ?_) (fun h3 => ?_)
      · skip
        exact xZ.sub (xsc (.tail _ (.head _)) (xsc (.tail _ (.tail _ (.head _))) (xsc (.tail _ (.tail _ (.tail _ (.head _)))) (xsc (.tail _ (.tail _ (.tail _ (.tail _ (.head _))))) (xsc (.tail _ (.tail _ (.tail _ (.tail _ (.tail _ (.head _)))))) (xsc (.tail _ (.tail _ (.tail _ (.tail _ (.tail _ (.tail _ (.head _))))))) (xsc (.tail _ (.tail _ (.tail _ (.tail _ (.tail _ (.tail _ (.tail _ (.head _)))))))) (xsc (.tail _ (.tail _ (.tail _ (.tail _ (.tail _ (.tail _ (.tail _ (.tail _ (.head _))))))))) (xsc (.tail _ (.tail _ (.tail _ (.tail _ (.tail _ (.tail _ (.tail _ (.tail _ (.tail _ (.head _)))))))))) (xsc (.head _) xsn)))))))))) (show ([14, 0, 1, 3, 4, 5, 9, 11, 12, 13] : List Nat).Nodup from by decide) (k_f_Law_areZones_512 O f d K370 hK370 v0 v1 v3 v4 v5 v9 v11 v12 v13 s0 M)
      · skip
        refine xZ.adv (me := xm138) hP_138 2 (pc' := 461) (lv' := [(14, .int (yw s0)), (0, .ref v0), (1, .ref v1), (3, .int (yw v3)), (4, .int (yw v4)), (5, .ref v5), (9, .ref v9), (11, .int (yw v11)), (12, .int (yw v12)), (13, .int (yw v13))]) (st' := [.int (0 : Int32), .ref v5]) rfl ?_
        refine xZ.eqs (lv2 := [(14, .int (yw s0)), (0, .ref v0), (1, .ref v1), (3, .int (yw v3)), (4, .int (yw v4)), (5, .ref v5), (9, .ref v9), (11, .int (yw v11)), (12, .int (yw v12)), (13, .int (yw v13))]) (st2 := [.int (yw 0), .ref v5]) rfl (by simp only [yl_lit, yL_lit, yw_add, yw_sub, yw_mul, yw_neg, yl_add, yl_sub, yl_mul, cj_and, cj_or, cj_xor, cj_shl, cj_shr, cj_ushr, cj_div, cj_i2c, cj_i2b, cj_dc, ck_and, ck_or, ck_xor, ck_shl, ck_shr, ck_ushr, ck_i2l, ck_l2i, ck_cmp]) ?_
        refine xZ.k_aJ (me := xm138) hP_138 rfl (fun x1 => ?_)
        refine xZ.adv (me := xm138) hP_138 2 (pc' := 465) (lv' := [(14, .int (yw s0)), (0, .ref v0), (1, .ref v1), (3, .int (yw v3)), (4, .int (yw v4)), (5, .ref v5), (9, .ref v9), (11, .int (yw v11)), (12, .int (yw v12)), (13, .int (yw v13))]) (st' := [.int (1 : Int32), .ref v5, .int (yw x1)]) rfl ?_
        refine xZ.eqs (lv2 := [(14, .int (yw s0)), (0, .ref v0), (1, .ref v1), (3, .int (yw v3)), (4, .int (yw v4)), (5, .ref v5), (9, .ref v9), (11, .int (yw v11)), (12, .int (yw v12)), (13, .int (yw v13))]) (st2 := [.int (yw 1), .ref v5, .int (yw x1)]) rfl (by simp only [yl_lit, yL_lit, yw_add, yw_sub, yw_mul, yw_neg, yl_add, yl_sub, yl_mul, cj_and, cj_or, cj_xor, cj_shl, cj_shr, cj_ushr, cj_div, cj_i2c, cj_i2b, cj_dc, ck_and, ck_or, ck_xor, ck_shl, ck_shr, ck_ushr, ck_i2l, ck_l2i, ck_cmp]) ?_
        refine xZ.k_aJ (me := xm138) hP_138 rfl (fun x2 => ?_)
        refine xZ.jc_ge (me := xm138) hP_138 rfl (fun h4 => ?_) (fun h4 => ?_)
        · skip
          refine xZ.adv (me := xm138) hP_138 3 (pc' := 495) (lv' := [(14, .int (yw s0)), (0, .ref v0), (1, .ref v1), (3, .int (yw v3)), (4, .int (yw v4)), (5, .ref v5), (9, .ref v9), (11, .int (yw v11)), (12, .int (yw v12)), (13, .int (yw v13))]) (st' := [.int (0 : Int32), .ref v9, .int (yw s0)]) rfl ?_
          refine xZ.eqs (lv2 := [(14, .int (yw s0)), (0, .ref v0), (1, .ref v1), (3, .int (yw v3)), (4, .int (yw v4)), (5, .ref v5), (9, .ref v9), (11, .int (yw v11)), (12, .int (yw v12)), (13, .int (yw v13))]) (st2 := [.int (yw 0), .ref v9, .int (yw s0)]) rfl (by simp only [yl_lit, yL_lit, yw_add, yw_sub, yw_mul, yw_neg, yl_add, yl_sub, yl_mul, cj_and, cj_or, cj_xor, cj_shl, cj_shr, cj_ushr, cj_div, cj_i2c, cj_i2b, cj_dc, ck_and, ck_or, ck_xor, ck_shl, ck_shr, ck_ushr, ck_i2l, ck_l2i, ck_cmp]) ?_
          refine xZ.k_aJ (me := xm138) hP_138 rfl (fun x3 => ?_)
          refine xZ.jc_ge (me := xm138) hP_138 rfl (fun h5 => ?_) (fun h5 => ?_)
          · skip
            exact xZ.sub (xsc (.tail _ (.head _)) (xsc (.tail _ (.tail _ (.head _))) (xsc (.tail _ (.tail _ (.tail _ (.head _)))) (xsc (.tail _ (.tail _ (.tail _ (.tail _ (.head _))))) (xsc (.tail _ (.tail _ (.tail _ (.tail _ (.tail _ (.head _)))))) (xsc (.tail _ (.tail _ (.tail _ (.tail _ (.tail _ (.tail _ (.head _))))))) (xsc (.tail _ (.tail _ (.tail _ (.tail _ (.tail _ (.tail _ (.tail _ (.head _)))))))) (xsc (.tail _ (.tail _ (.tail _ (.tail _ (.tail _ (.tail _ (.tail _ (.tail _ (.head _))))))))) (xsc (.tail _ (.tail _ (.tail _ (.tail _ (.tail _ (.tail _ (.tail _ (.tail _ (.tail _ (.head _)))))))))) (xsc (.head _) xsn)))))))))) (show ([14, 0, 1, 3, 4, 5, 9, 11, 12, 13] : List Nat).Nodup from by decide) (k_f_Law_areZones_508 O f d K370 hK370 v0 v1 v3 v4 v5 v9 v11 v12 v13 s0 M)
          · skip
            refine xZ.adv (me := xm138) hP_138 3 (pc' := 504) (lv' := [(14, .int (yw s0)), (0, .ref v0), (1, .ref v1), (3, .int (yw v3)), (4, .int (yw v4)), (5, .ref v5), (9, .ref v9), (11, .int (yw v11)), (12, .int (yw v12)), (13, .int (yw v13))]) (st' := [.int (1 : Int32), .ref v9, .int (yw s0)]) rfl ?_
            refine xZ.eqs (lv2 := [(14, .int (yw s0)), (0, .ref v0), (1, .ref v1), (3, .int (yw v3)), (4, .int (yw v4)), (5, .ref v5), (9, .ref v9), (11, .int (yw v11)), (12, .int (yw v12)), (13, .int (yw v13))]) (st2 := [.int (yw 1), .ref v9, .int (yw s0)]) rfl (by simp only [yl_lit, yL_lit, yw_add, yw_sub, yw_mul, yw_neg, yl_add, yl_sub, yl_mul, cj_and, cj_or, cj_xor, cj_shl, cj_shr, cj_ushr, cj_div, cj_i2c, cj_i2b, cj_dc, ck_and, ck_or, ck_xor, ck_shl, ck_shr, ck_ushr, ck_i2l, ck_l2i, ck_cmp]) ?_
            refine xZ.k_aJ (me := xm138) hP_138 rfl (fun x4 => ?_)
            refine xZ.jc_ge (me := xm138) hP_138 rfl (fun h6 => ?_) (fun h6 => ?_)
            · skip
              exact xZ.sub (xsc (.tail _ (.head _)) (xsc (.tail _ (.tail _ (.head _))) (xsc (.tail _ (.tail _ (.tail _ (.head _)))) (xsc (.tail _ (.tail _ (.tail _ (.tail _ (.head _))))) (xsc (.tail _ (.tail _ (.tail _ (.tail _ (.tail _ (.head _)))))) (xsc (.tail _ (.tail _ (.tail _ (.tail _ (.tail _ (.tail _ (.head _))))))) (xsc (.tail _ (.tail _ (.tail _ (.tail _ (.tail _ (.tail _ (.tail _ (.head _)))))))) (xsc (.tail _ (.tail _ (.tail _ (.tail _ (.tail _ (.tail _ (.tail _ (.tail _ (.head _))))))))) (xsc (.tail _ (.tail _ (.tail _ (.tail _ (.tail _ (.tail _ (.tail _ (.tail _ (.tail _ (.head _)))))))))) (xsc (.head _) xsn)))))))))) (show ([14, 0, 1, 3, 4, 5, 9, 11, 12, 13] : List Nat).Nodup from by decide) (k_f_Law_areZones_512 O f d K370 hK370 v0 v1 v3 v4 v5 v9 v11 v12 v13 s0 M)
            · skip
              exact xZ.sub (xsc (.tail _ (.head _)) (xsc (.tail _ (.tail _ (.head _))) (xsc (.tail _ (.tail _ (.tail _ (.head _)))) (xsc (.tail _ (.tail _ (.tail _ (.tail _ (.head _))))) (xsc (.tail _ (.tail _ (.tail _ (.tail _ (.tail _ (.head _)))))) (xsc (.tail _ (.tail _ (.tail _ (.tail _ (.tail _ (.tail _ (.head _))))))) (xsc (.tail _ (.tail _ (.tail _ (.tail _ (.tail _ (.tail _ (.tail _ (.head _)))))))) (xsc (.tail _ (.tail _ (.tail _ (.tail _ (.tail _ (.tail _ (.tail _ (.tail _ (.head _))))))))) (xsc (.tail _ (.tail _ (.tail _ (.tail _ (.tail _ (.tail _ (.tail _ (.tail _ (.tail _ (.head _)))))))))) (xsc (.head _) xsn)))))))))) (show ([14, 0, 1, 3, 4, 5, 9, 11, 12, 13] : List Nat).Nodup from by decide) (k_f_Law_areZones_508 O f d K370 hK370 v0 v1 v3 v4 v5 v9 v11 v12 v13 s0 M)
        · skip
          refine xZ.adv (me := xm138) hP_138 3 (pc' := 474) (lv' := [(14, .int (yw s0)), (0, .ref v0), (1, .ref v1), (3, .int (yw v3)), (4, .int (yw v4)), (5, .ref v5), (9, .ref v9), (11, .int (yw v11)), (12, .int (yw v12)), (13, .int (yw v13))]) (st' := [.int (0 : Int32), .ref v9, .int (yw s0)]) rfl ?_
          refine xZ.eqs (lv2 := [(14, .int (yw s0)), (0, .ref v0), (1, .ref v1), (3, .int (yw v3)), (4, .int (yw v4)), (5, .ref v5), (9, .ref v9), (11, .int (yw v11)), (12, .int (yw v12)), (13, .int (yw v13))]) (st2 := [.int (yw 0), .ref v9, .int (yw s0)]) rfl (by simp only [yl_lit, yL_lit, yw_add, yw_sub, yw_mul, yw_neg, yl_add, yl_sub, yl_mul, cj_and, cj_or, cj_xor, cj_shl, cj_shr, cj_ushr, cj_div, cj_i2c, cj_i2b, cj_dc, ck_and, ck_or, ck_xor, ck_shl, ck_shr, ck_ushr, ck_i2l, ck_l2i, ck_cmp]) ?_
          refine xZ.k_aJ (me := xm138) hP_138 rfl (fun x5 => ?_)
          refine xZ.jc_lt (me := xm138) hP_138 rfl (fun h7 => ?_) (fun h7 => ?_)
          · skip
            exact xZ.sub (xsc (.tail _ (.head _)) (xsc (.tail _ (.tail _ (.head _))) (xsc (.tail _ (.tail _ (.tail _ (.head _)))) (xsc (.tail _ (.tail _ (.tail _ (.tail _ (.head _))))) (xsc (.tail _ (.tail _ (.tail _ (.tail _ (.tail _ (.head _)))))) (xsc (.tail _ (.tail _ (.tail _ (.tail _ (.tail _ (.tail _ (.head _))))))) (xsc (.tail _ (.tail _ (.tail _ (.tail _ (.tail _ (.tail _ (.tail _ (.head _)))))))) (xsc (.tail _ (.tail _ (.tail _ (.tail _ (.tail _ (.tail _ (.tail _ (.tail _ (.head _))))))))) (xsc (.tail _ (.tail _ (.tail _ (.tail _ (.tail _ (.tail _ (.tail _ (.tail _ (.tail _ (.head _)))))))))) (xsc (.head _) xsn)))))))))) (show ([14, 0, 1, 3, 4, 5, 9, 11, 12, 13] : List Nat).Nodup from by decide) (k_f_Law_areZones_512 O f d K370 hK370 v0 v1 v3 v4 v5 v9 v11 v12 v13 s0 M)
          · skip
            refine xZ.adv (me := xm138) hP_138 3 (pc' := 483) (lv' := [(14, .int (yw s0)), (0, .ref v0), (1, .ref v1), (3, .int (yw v3)), (4, .int (yw v4)), (5, .ref v5), (9, .ref v9), (11, .int (yw v11)), (12, .int (yw v12)), (13, .int (yw v13))]) (st' := [.int (1 : Int32), .ref v9, .int (yw s0)]) rfl ?_
            refine xZ.eqs (lv2 := [(14, .int (yw s0)), (0, .ref v0), (1, .ref v1), (3, .int (yw v3)), (4, .int (yw v4)), (5, .ref v5), (9, .ref v9), (11, .int (yw v11)), (12, .int (yw v12)), (13, .int (yw v13))]) (st2 := [.int (yw 1), .ref v9, .int (yw s0)]) rfl (by simp only [yl_lit, yL_lit, yw_add, yw_sub, yw_mul, yw_neg, yl_add, yl_sub, yl_mul, cj_and, cj_or, cj_xor, cj_shl, cj_shr, cj_ushr, cj_div, cj_i2c, cj_i2b, cj_dc, ck_and, ck_or, ck_xor, ck_shl, ck_shr, ck_ushr, ck_i2l, ck_l2i, ck_cmp]) ?_
            refine xZ.k_aJ (me := xm138) hP_138 rfl (fun x6 => ?_)
            refine xZ.jc_ge (me := xm138) hP_138 rfl (fun h8 => ?_) (fun h8 => ?_)
            · skip
              exact xZ.sub (xsc (.tail _ (.head _)) (xsc (.tail _ (.tail _ (.head _))) (xsc (.tail _ (.tail _ (.tail _ (.head _)))) (xsc (.tail _ (.tail _ (.tail _ (.tail _ (.head _))))) (xsc (.tail _ (.tail _ (.tail _ (.tail _ (.tail _ (.head _)))))) (xsc (.tail _ (.tail _ (.tail _ (.tail _ (.tail _ (.tail _ (.head _))))))) (xsc (.tail _ (.tail _ (.tail _ (.tail _ (.tail _ (.tail _ (.tail _ (.head _)))))))) (xsc (.tail _ (.tail _ (.tail _ (.tail _ (.tail _ (.tail _ (.tail _ (.tail _ (.head _))))))))) (xsc (.tail _ (.tail _ (.tail _ (.tail _ (.tail _ (.tail _ (.tail _ (.tail _ (.tail _ (.head _)))))))))) (xsc (.head _) xsn)))))))))) (show ([14, 0, 1, 3, 4, 5, 9, 11, 12, 13] : List Nat).Nodup from by decide) (k_f_Law_areZones_512 O f d K370 hK370 v0 v1 v3 v4 v5 v9 v11 v12 v13 s0 M)
            · skip
              refine xZ.adv (me := xm138) hP_138 1 (pc' := 508) (lv' := [(14, .int (yw s0)), (0, .ref v0), (1, .ref v1), (3, .int (yw v3)), (4, .int (yw v4)), (5, .ref v5), (9, .ref v9), (11, .int (yw v11)), (12, .int (yw v12)), (13, .int (yw v13))]) (st' := []) rfl ?_
              exact xZ.sub (xsc (.tail _ (.head _)) (xsc (.tail _ (.tail _ (.head _))) (xsc (.tail _ (.tail _ (.tail _ (.head _)))) (xsc (.tail _ (.tail _ (.tail _ (.tail _ (.head _))))) (xsc (.tail _ (.tail _ (.tail _ (.tail _ (.tail _ (.head _)))))) (xsc (.tail _ (.tail _ (.tail _ (.tail _ (.tail _ (.tail _ (.head _))))))) (xsc (.tail _ (.tail _ (.tail _ (.tail _ (.tail _ (.tail _ (.tail _ (.head _)))))))) (xsc (.tail _ (.tail _ (.tail _ (.tail _ (.tail _ (.tail _ (.tail _ (.tail _ (.head _))))))))) (xsc (.tail _ (.tail _ (.tail _ (.tail _ (.tail _ (.tail _ (.tail _ (.tail _ (.tail _ (.head _)))))))))) (xsc (.head _) xsn)))))))))) (show ([14, 0, 1, 3, 4, 5, 9, 11, 12, 13] : List Nat).Nodup from by decide) (k_f_Law_areZones_508 O f d K370 hK370 v0 v1 v3 v4 v5 v9 v11 v12 v13 s0 M)
    · skip
      refine xZ.adv (me := xm138) hP_138 3 (pc' := 370) (lv' := [(13, .int ((yw v13) + (1 : Int32))), (14, .int (yw s0)), (0, .ref v0), (1, .ref v1), (3, .int (yw v3)), (4, .int (yw v4)), (5, .ref v5), (9, .ref v9), (11, .int (yw v11)), (12, .int (yw v12))]) (st' := []) rfl ?_
      refine xZ.eqs (lv2 := [(13, .int (yw (v13 + 1))), (14, .int (yw s0)), (0, .ref v0), (1, .ref v1), (3, .int (yw v3)), (4, .int (yw v4)), (5, .ref v5), (9, .ref v9), (11, .int (yw v11)), (12, .int (yw v12))]) (st2 := []) (by simp only [yl_lit, yL_lit, yw_add, yw_sub, yw_mul, yw_neg, yl_add, yl_sub, yl_mul, cj_and, cj_or, cj_xor, cj_shl, cj_shr, cj_ushr, cj_div, cj_i2c, cj_i2b, cj_dc, ck_and, ck_or, ck_xor, ck_shl, ck_shr, ck_ushr, ck_i2l, ck_l2i, ck_cmp]) rfl ?_
      exact xZ.sub (xsc (.tail _ (.tail _ (.head _))) (xsc (.tail _ (.tail _ (.tail _ (.head _)))) (xsc (.tail _ (.tail _ (.tail _ (.tail _ (.head _))))) (xsc (.tail _ (.tail _ (.tail _ (.tail _ (.tail _ (.head _)))))) (xsc (.tail _ (.tail _ (.tail _ (.tail _ (.tail _ (.tail _ (.head _))))))) (xsc (.tail _ (.tail _ (.tail _ (.tail _ (.tail _ (.tail _ (.tail _ (.head _)))))))) (xsc (.tail _ (.tail _ (.tail _ (.tail _ (.tail _ (.tail _ (.tail _ (.tail _ (.head _))))))))) (xsc (.tail _ (.tail _ (.tail _ (.tail _ (.tail _ (.tail _ (.tail _ (.tail _ (.tail _ (.head _)))))))))) (xsc (.head _) xsn))))))))) (show ([13, 14, 0, 1, 3, 4, 5, 9, 11, 12] : List Nat).Nodup from by decide) (hK370 v0 v1 v3 v4 v5 v9 v11 v12 (v13 + 1) M)
def f_Law_areZones_677 (O : Nat → Option va_E) (f : Nat) (K623 : Nat → Int → Int → Int → Int → Int → xM → Option (Int × xM)) (v0 : Nat) (v3 : Int) (v13 : Int) (v15 : Int) (v16 : Int) (s0 : Int) (M : xM) : Option (Int × xM) :=
  K623 v0 v3 v13 s0 v15 (v16 + 1) M
set_option maxRecDepth 20000 in
theorem k_f_Law_areZones_677 (O : Nat → Option va_E) (f d : Nat) (K623 : Nat → Int → Int → Int → Int → Int → xM → Option (Int × xM)) (hK623 : ∀ (v0 : Nat) (v3 : Int) (v13 : Int) (v14 : Int) (v15 : Int) (v16 : Int) M, xZ oJ O (d + 7) 138 623 [(0, .ref v0), (3, .int (yw v3)), (13, .int (yw v13)), (14, .int (yw v14)), (15, .int (yw v15)), (16, .int (yw v16))] [] M (K623 v0 v3 v13 v14 v15 v16 M)) (v0 : Nat) (v3 : Int) (v13 : Int) (v15 : Int) (v16 : Int) (s0 : Int) (M : xM) : xZ oJ O (d + 7) 138 677 [(0, .ref v0), (3, .int (yw v3)), (13, .int (yw v13)), (15, .int (yw v15)), (16, .int (yw v16))] [.int (yw s0)] M (f_Law_areZones_677 O f K623 v0 v3 v13 v15 v16 s0 M) := by
  unfold f_Law_areZones_677
  refine xZ.adv (me := xm138) hP_138 3 (pc' := 623) (lv' := [(16, .int ((yw v16) + (1 : Int32))), (14, .int (yw s0)), (0, .ref v0), (3, .int (yw v3)), (13, .int (yw v13)), (15, .int (yw v15))]) (st' := []) rfl ?_
  refine xZ.eqs (lv2 := [(16, .int (yw (v16 + 1))), (14, .int (yw s0)), (0, .ref v0), (3, .int (yw v3)), (13, .int (yw v13)), (15, .int (yw v15))]) (st2 := []) (by simp only [yl_lit, yL_lit, yw_add, yw_sub, yw_mul, yw_neg, yl_add, yl_sub, yl_mul, cj_and, cj_or, cj_xor, cj_shl, cj_shr, cj_ushr, cj_div, cj_i2c, cj_i2b, cj_dc, ck_and, ck_or, ck_xor, ck_shl, ck_shr, ck_ushr, ck_i2l, ck_l2i, ck_cmp]) rfl ?_
  exact xZ.sub (xsc (.tail _ (.tail _ (.head _))) (xsc (.tail _ (.tail _ (.tail _ (.head _)))) (xsc (.tail _ (.tail _ (.tail _ (.tail _ (.head _))))) (xsc (.tail _ (.head _)) (xsc (.tail _ (.tail _ (.tail _ (.tail _ (.tail _ (.head _)))))) (xsc (.head _) xsn)))))) (show ([16, 14, 0, 3, 13, 15] : List Nat).Nodup from by decide) (hK623 v0 v3 v13 s0 v15 (v16 + 1) M)
def f_Law_areZones_662 (O : Nat → Option va_E) (f : Nat) (K623 : Nat → Int → Int → Int → Int → Int → xM → Option (Int × xM)) (v0 : Nat) (v3 : Int) (v13 : Int) (v14 : Int) (v16 : Int) (s0 : Int) (M : xM) : Option (Int × xM) :=
  if yw v14 = yw (-1) then (
    f_Law_areZones_677 O f K623 v0 v3 v13 s0 v16 v16 M
  ) else
  f_Law_areZones_677 O f K623 v0 v3 v13 s0 v16 v14 M
set_option maxRecDepth 20000 in
theorem k_f_Law_areZones_662 (O : Nat → Option va_E) (f d : Nat) (K623 : Nat → Int → Int → Int → Int → Int → xM → Option (Int × xM)) (hK623 : ∀ (v0 : Nat) (v3 : Int) (v13 : Int) (v14 : Int) (v15 : Int) (v16 : Int) M, xZ oJ O (d + 7) 138 623 [(0, .ref v0), (3, .int (yw v3)), (13, .int (yw v13)), (14, .int (yw v14)), (15, .int (yw v15)), (16, .int (yw v16))] [] M (K623 v0 v3 v13 v14 v15 v16 M)) (v0 : Nat) (v3 : Int) (v13 : Int) (v14 : Int) (v16 : Int) (s0 : Int) (M : xM) : xZ oJ O (d + 7) 138 662 [(0, .ref v0), (3, .int (yw v3)), (13, .int (yw v13)), (14, .int (yw v14)), (16, .int (yw v16))] [.int (yw s0)] M (f_Law_areZones_662 O f K623 v0 v3 v13 v14 v16 s0 M) := by
  unfold f_Law_areZones_662
  refine xZ.adv (me := xm138) hP_138 3 (pc' := 667) (lv' := [(15, .int (yw s0)), (0, .ref v0), (3, .int (yw v3)), (13, .int (yw v13)), (14, .int (yw v14)), (16, .int (yw v16))]) (st' := [.int (-1 : Int32), .int (yw v14)]) rfl ?_
  refine xZ.eqs (lv2 := [(15, .int (yw s0)), (0, .ref v0), (3, .int (yw v3)), (13, .int (yw v13)), (14, .int (yw v14)), (16, .int (yw v16))]) (st2 := [.int (yw (-1)), .int (yw v14)]) rfl (by simp only [yl_lit, yL_lit, yw_add, yw_sub, yw_mul, yw_neg, yl_add, yl_sub, yl_mul, cj_and, cj_or, cj_xor, cj_shl, cj_shr, cj_ushr, cj_div, cj_i2c, cj_i2b, cj_dc, ck_and, ck_or, ck_xor, ck_shl, ck_shr, ck_ushr, ck_i2l, ck_l2i, ck_cmp]) ?_
  refine xZ.jc_ne (me := xm138) hP_138 rfl (fun h1 => ?_) (fun h1 => ?_)
  · skip
    refine xZ.adv (me := xm138) hP_138 2 (pc' := 677) (lv' := [(15, .int (yw s0)), (0, .ref v0), (3, .int (yw v3)), (13, .int (yw v13)), (14, .int (yw v14)), (16, .int (yw v16))]) (st' := [.int (yw v16)]) rfl ?_
    exact xZ.sub (xsc (.tail _ (.head _)) (xsc (.tail _ (.tail _ (.head _))) (xsc (.tail _ (.tail _ (.tail _ (.head _)))) (xsc (.head _) (xsc (.tail _ (.tail _ (.tail _ (.tail _ (.tail _ (.head _)))))) xsn))))) (show ([15, 0, 3, 13, 14, 16] : List Nat).Nodup from by decide) (k_f_Law_areZones_677 O f d K623 hK623 v0 v3 v13 s0 v16 v16 M)
  · skip
    refine xZ.adv (me := xm138) hP_138 1 (pc' := 677) (lv' := [(15, .int (yw s0)), (0, .ref v0), (3, .int (yw v3)), (13, .int (yw v13)), (14, .int (yw v14)), (16, .int (yw v16))]) (st' := [.int (yw v14)]) rfl ?_
    exact xZ.sub (xsc (.tail _ (.head _)) (xsc (.tail _ (.tail _ (.head _))) (xsc (.tail _ (.tail _ (.tail _ (.head _)))) (xsc (.head _) (xsc (.tail _ (.tail _ (.tail _ (.tail _ (.tail _ (.head _)))))) xsn))))) (show ([15, 0, 3, 13, 14, 16] : List Nat).Nodup from by decide) (k_f_Law_areZones_677 O f d K623 hK623 v0 v3 v13 s0 v16 v14 M)
def f_Law_areZones_623 (O : Nat → Option va_E) (f : Nat) : Nat → Nat → Int → Int → Int → Int → Int → xM → Option (Int × xM)
  | 0, _, _, _, _, _, _, _ => none
  | n + 1, v0, v3, v13, v14, v15, v16, M =>
    if yw ((v13 - v3) + 10) < yw v16 then (
      (isO O M v0 12).bind fun _ =>
      xcl (f_Calendarhall_toCommon O f v0 1 v13 0 M) fun x1 M1 =>
      if yw x1 = yw v14 then (
        (isO O M1 v0 12).bind fun _ =>
        xcl (f_Calendarhall_toCommon O f v0 1 v13 1 M1) fun x2 M2 =>
        if yw x2 = yw v15 then (
          (isO O M2 v0 12).bind fun _ =>
          xcl (f_Calendarhall_errors O f v0 M2) fun x3 M3 =>
          if yw x3 = yw 0 then (
            some (1, M3)
          ) else
          some (0, M3)
        ) else
        some (0, M2)
      ) else
      some (0, M1)
    ) else
    (isO O M v0 12).bind fun _ =>
    xcl (f_Calendarhall_toLocal O f v0 1 v16 M) fun x4 M4 =>
    if yw x4 = yw v13 then (
      if yw v14 = yw (-1) then (
        f_Law_areZones_662 O f (f_Law_areZones_623 O f n) v0 v3 v13 v14 v16 (-1) M4
      ) else
      f_Law_areZones_662 O f (f_Law_areZones_623 O f n) v0 v3 v13 v14 v16 v16 M4
    ) else
    f_Law_areZones_623 O f n v0 v3 v13 v14 v15 (v16 + 1) M4
set_option maxRecDepth 20000 in
theorem k_f_Law_areZones_623 (O : Nat → Option va_E) (f d : Nat) : ∀ (n : Nat) (v0 : Nat) (v3 : Int) (v13 : Int) (v14 : Int) (v15 : Int) (v16 : Int) (M : xM), xZ oJ O (d + 7) 138 623 [(0, .ref v0), (3, .int (yw v3)), (13, .int (yw v13)), (14, .int (yw v14)), (15, .int (yw v15)), (16, .int (yw v16))] [] M (f_Law_areZones_623 O f n v0 v3 v13 v14 v15 v16 M) := by
  intro n
  induction n with
  | zero =>
    intro v0 v3 v13 v14 v15 v16 M
    exact xZ.no
  | succ n ih =>
    intro v0 v3 v13 v14 v15 v16 M
    unfold f_Law_areZones_623
    refine xZ.adv (me := xm138) hP_138 6 (pc' := 632) (lv' := [(0, .ref v0), (3, .int (yw v3)), (13, .int (yw v13)), (14, .int (yw v14)), (15, .int (yw v15)), (16, .int (yw v16))]) (st' := [.int (((yw v13) - (yw v3)) + (10 : Int32)), .int (yw v16)]) rfl ?_
    refine xZ.eqs (lv2 := [(0, .ref v0), (3, .int (yw v3)), (13, .int (yw v13)), (14, .int (yw v14)), (15, .int (yw v15)), (16, .int (yw v16))]) (st2 := [.int (yw ((v13 - v3) + 10)), .int (yw v16)]) rfl (by simp only [yl_lit, yL_lit, yw_add, yw_sub, yw_mul, yw_neg, yl_add, yl_sub, yl_mul, cj_and, cj_or, cj_xor, cj_shl, cj_shr, cj_ushr, cj_div, cj_i2c, cj_i2b, cj_dc, ck_and, ck_or, ck_xor, ck_shl, ck_shr, ck_ushr, ck_i2l, ck_l2i, ck_cmp]) ?_
    refine xZ.jc_gt (me := xm138) hP_138 rfl (fun h1 => ?_) (fun h1 => ?_)
    · skip
      refine xZ.adv (me := xm138) hP_138 4 (pc' := 690) (lv' := [(0, .ref v0), (3, .int (yw v3)), (13, .int (yw v13)), (14, .int (yw v14)), (15, .int (yw v15)), (16, .int (yw v16))]) (st' := [.int (0 : Int32), .int (yw v13), .int (1 : Int32), .ref v0]) rfl ?_
      refine xZ.eqs (lv2 := [(0, .ref v0), (3, .int (yw v3)), (13, .int (yw v13)), (14, .int (yw v14)), (15, .int (yw v15)), (16, .int (yw v16))]) (st2 := [.int (yw 0), .int (yw v13), .int (yw 1), .ref v0]) rfl (by simp only [yl_lit, yL_lit, yw_add, yw_sub, yw_mul, yw_neg, yl_add, yl_sub, yl_mul, cj_and, cj_or, cj_xor, cj_shl, cj_shr, cj_ushr, cj_div, cj_i2c, cj_i2b, cj_dc, ck_and, ck_or, ck_xor, ck_shl, ck_shr, ck_ushr, ck_i2l, ck_l2i, ck_cmp]) ?_
      refine xZ.callv (κ := oJ) (av := [.int (yw 1), .int (yw v13), .int (yw 0)]) (rest := []) (st' := fun x1 => [.int (yw x1)]) (k0 := v0) (me := xm138) hP_138 rfl (Or.inl rfl) ⟨rfl, by decide⟩ rfl rfl (Nat.le_of_ble_eq_true rfl) (by decide) hP_144 (Nat.le_of_ble_eq_true rfl) (fun _ => rfl) (k_f_Calendarhall_toCommon O f (d + 2) v0 1 v13 0 M) (fun x1 M1 => ?_)
      refine xZ.adv (me := xm138) hP_138 1 (pc' := 695) (lv' := [(0, .ref v0), (3, .int (yw v3)), (13, .int (yw v13)), (14, .int (yw v14)), (15, .int (yw v15)), (16, .int (yw v16))]) (st' := [.int (yw v14), .int (yw x1)]) rfl ?_
      refine xZ.jc_ne (me := xm138) hP_138 rfl (fun h2 => ?_) (fun h2 => ?_)
      · skip
        refine xZ.adv (me := xm138) hP_138 4 (pc' := 703) (lv' := [(0, .ref v0), (3, .int (yw v3)), (13, .int (yw v13)), (14, .int (yw v14)), (15, .int (yw v15)), (16, .int (yw v16))]) (st' := [.int (1 : Int32), .int (yw v13), .int (1 : Int32), .ref v0]) rfl ?_
        refine xZ.eqs (lv2 := [(0, .ref v0), (3, .int (yw v3)), (13, .int (yw v13)), (14, .int (yw v14)), (15, .int (yw v15)), (16, .int (yw v16))]) (st2 := [.int (yw 1), .int (yw v13), .int (yw 1), .ref v0]) rfl (by simp only [yl_lit, yL_lit, yw_add, yw_sub, yw_mul, yw_neg, yl_add, yl_sub, yl_mul, cj_and, cj_or, cj_xor, cj_shl, cj_shr, cj_ushr, cj_div, cj_i2c, cj_i2b, cj_dc, ck_and, ck_or, ck_xor, ck_shl, ck_shr, ck_ushr, ck_i2l, ck_l2i, ck_cmp]) ?_
        refine xZ.callv (κ := oJ) (av := [.int (yw 1), .int (yw v13), .int (yw 1)]) (rest := []) (st' := fun x2 => [.int (yw x2)]) (k0 := v0) (me := xm138) hP_138 rfl (Or.inl rfl) ⟨rfl, by decide⟩ rfl rfl (Nat.le_of_ble_eq_true rfl) (by decide) hP_144 (Nat.le_of_ble_eq_true rfl) (fun _ => rfl) (k_f_Calendarhall_toCommon O f (d + 2) v0 1 v13 1 M1) (fun x2 M2 => ?_)
        refine xZ.adv (me := xm138) hP_138 1 (pc' := 708) (lv' := [(0, .ref v0), (3, .int (yw v3)), (13, .int (yw v13)), (14, .int (yw v14)), (15, .int (yw v15)), (16, .int (yw v16))]) (st' := [.int (yw v15), .int (yw x2)]) rfl ?_
        refine xZ.jc_ne (me := xm138) hP_138 rfl (fun h3 => ?_) (fun h3 => ?_)
        · skip
          refine xZ.adv (me := xm138) hP_138 1 (pc' := 712) (lv' := [(0, .ref v0), (3, .int (yw v3)), (13, .int (yw v13)), (14, .int (yw v14)), (15, .int (yw v15)), (16, .int (yw v16))]) (st' := [.ref v0]) rfl ?_
          refine xZ.callv (κ := oJ) (av := []) (rest := []) (st' := fun x3 => [.int (yw x3)]) (k0 := v0) (me := xm138) hP_138 rfl (Or.inl rfl) ⟨rfl, by decide⟩ rfl rfl (Nat.le_of_ble_eq_true rfl) (by decide) hP_132 (Nat.le_of_ble_eq_true rfl) (fun _ => rfl) (k_f_Calendarhall_errors O f (d + 0) v0 M2) (fun x3 M3 => ?_)
          refine xZ.jf_ne (me := xm138) hP_138 rfl (fun h4 => ?_) (fun h4 => ?_)
          · skip
            refine xZ.adv (me := xm138) hP_138 2 (pc' := 723) (lv' := [(0, .ref v0), (3, .int (yw v3)), (13, .int (yw v13)), (14, .int (yw v14)), (15, .int (yw v15)), (16, .int (yw v16))]) (st' := [.int (1 : Int32)]) rfl ?_
            refine xZ.eqs (lv2 := [(0, .ref v0), (3, .int (yw v3)), (13, .int (yw v13)), (14, .int (yw v14)), (15, .int (yw v15)), (16, .int (yw v16))]) (st2 := [.int (yw 1)]) rfl (by simp only [yl_lit, yL_lit, yw_add, yw_sub, yw_mul, yw_neg, yl_add, yl_sub, yl_mul, cj_and, cj_or, cj_xor, cj_shl, cj_shr, cj_ushr, cj_div, cj_i2c, cj_i2b, cj_dc, ck_and, ck_or, ck_xor, ck_shl, ck_shr, ck_ushr, ck_i2l, ck_l2i, ck_cmp]) ?_
            exact xZ.jrete (me := xm138) hP_138 rfl rfl rfl
          · skip
            refine xZ.adv (me := xm138) hP_138 1 (pc' := 723) (lv' := [(0, .ref v0), (3, .int (yw v3)), (13, .int (yw v13)), (14, .int (yw v14)), (15, .int (yw v15)), (16, .int (yw v16))]) (st' := [.int (0 : Int32)]) rfl ?_
            refine xZ.eqs (lv2 := [(0, .ref v0), (3, .int (yw v3)), (13, .int (yw v13)), (14, .int (yw v14)), (15, .int (yw v15)), (16, .int (yw v16))]) (st2 := [.int (yw 0)]) rfl (by simp only [yl_lit, yL_lit, yw_add, yw_sub, yw_mul, yw_neg, yl_add, yl_sub, yl_mul, cj_and, cj_or, cj_xor, cj_shl, cj_shr, cj_ushr, cj_div, cj_i2c, cj_i2b, cj_dc, ck_and, ck_or, ck_xor, ck_shl, ck_shr, ck_ushr, ck_i2l, ck_l2i, ck_cmp]) ?_
            exact xZ.jrete (me := xm138) hP_138 rfl rfl rfl
        · skip
          refine xZ.adv (me := xm138) hP_138 1 (pc' := 723) (lv' := [(0, .ref v0), (3, .int (yw v3)), (13, .int (yw v13)), (14, .int (yw v14)), (15, .int (yw v15)), (16, .int (yw v16))]) (st' := [.int (0 : Int32)]) rfl ?_
          refine xZ.eqs (lv2 := [(0, .ref v0), (3, .int (yw v3)), (13, .int (yw v13)), (14, .int (yw v14)), (15, .int (yw v15)), (16, .int (yw v16))]) (st2 := [.int (yw 0)]) rfl (by simp only [yl_lit, yL_lit, yw_add, yw_sub, yw_mul, yw_neg, yl_add, yl_sub, yl_mul, cj_and, cj_or, cj_xor, cj_shl, cj_shr, cj_ushr, cj_div, cj_i2c, cj_i2b, cj_dc, ck_and, ck_or, ck_xor, ck_shl, ck_shr, ck_ushr, ck_i2l, ck_l2i, ck_cmp]) ?_
          exact xZ.jrete (me := xm138) hP_138 rfl rfl rfl
      · skip
        refine xZ.adv (me := xm138) hP_138 1 (pc' := 723) (lv' := [(0, .ref v0), (3, .int (yw v3)), (13, .int (yw v13)), (14, .int (yw v14)), (15, .int (yw v15)), (16, .int (yw v16))]) (st' := [.int (0 : Int32)]) rfl ?_
        refine xZ.eqs (lv2 := [(0, .ref v0), (3, .int (yw v3)), (13, .int (yw v13)), (14, .int (yw v14)), (15, .int (yw v15)), (16, .int (yw v16))]) (st2 := [.int (yw 0)]) rfl (by simp only [yl_lit, yL_lit, yw_add, yw_sub, yw_mul, yw_neg, yl_add, yl_sub, yl_mul, cj_and, cj_or, cj_xor, cj_shl, cj_shr, cj_ushr, cj_div, cj_i2c, cj_i2b, cj_dc, ck_and, ck_or, ck_xor, ck_shl, ck_shr, ck_ushr, ck_i2l, ck_l2i, ck_cmp]) ?_
        exact xZ.jrete (me := xm138) hP_138 rfl rfl rfl
    · skip
      refine xZ.adv (me := xm138) hP_138 3 (pc' := 639) (lv' := [(0, .ref v0), (3, .int (yw v3)), (13, .int (yw v13)), (14, .int (yw v14)), (15, .int (yw v15)), (16, .int (yw v16))]) (st' := [.int (yw v16), .int (1 : Int32), .ref v0]) rfl ?_
      refine xZ.eqs (lv2 := [(0, .ref v0), (3, .int (yw v3)), (13, .int (yw v13)), (14, .int (yw v14)), (15, .int (yw v15)), (16, .int (yw v16))]) (st2 := [.int (yw v16), .int (yw 1), .ref v0]) rfl (by simp only [yl_lit, yL_lit, yw_add, yw_sub, yw_mul, yw_neg, yl_add, yl_sub, yl_mul, cj_and, cj_or, cj_xor, cj_shl, cj_shr, cj_ushr, cj_div, cj_i2c, cj_i2b, cj_dc, ck_and, ck_or, ck_xor, ck_shl, ck_shr, ck_ushr, ck_i2l, ck_l2i, ck_cmp]) ?_
      refine xZ.callv (κ := oJ) (av := [.int (yw 1), .int (yw v16)]) (rest := []) (st' := fun x4 => [.int (yw x4)]) (k0 := v0) (me := xm138) hP_138 rfl (Or.inl rfl) ⟨rfl, by decide⟩ rfl rfl (Nat.le_of_ble_eq_true rfl) (by decide) hP_143 (Nat.le_of_ble_eq_true rfl) (fun _ => rfl) (k_f_Calendarhall_toLocal O f (d + 2) v0 1 v16 M) (fun x4 M4 => ?_)
      refine xZ.adv (me := xm138) hP_138 1 (pc' := 644) (lv' := [(0, .ref v0), (3, .int (yw v3)), (13, .int (yw v13)), (14, .int (yw v14)), (15, .int (yw v15)), (16, .int (yw v16))]) (st' := [.int (yw v13), .int (yw x4)]) rfl ?_
      refine xZ.jc_eq (me := xm138) hP_138 rfl (fun h5 => ?_) (fun h5 => ?_)
      · skip
        refine xZ.adv (me := xm138) hP_138 2 (pc' := 653) (lv' := [(0, .ref v0), (3, .int (yw v3)), (13, .int (yw v13)), (14, .int (yw v14)), (15, .int (yw v15)), (16, .int (yw v16))]) (st' := [.int (-1 : Int32), .int (yw v14)]) rfl ?_
        refine xZ.eqs (lv2 := [(0, .ref v0), (3, .int (yw v3)), (13, .int (yw v13)), (14, .int (yw v14)), (15, .int (yw v15)), (16, .int (yw v16))]) (st2 := [.int (yw (-1)), .int (yw v14)]) rfl (by simp only [yl_lit, yL_lit, yw_add, yw_sub, yw_mul, yw_neg, yl_add, yl_sub, yl_mul, cj_and, cj_or, cj_xor, cj_shl, cj_shr, cj_ushr, cj_div, cj_i2c, cj_i2b, cj_dc, ck_and, ck_or, ck_xor, ck_shl, ck_shr, ck_ushr, ck_i2l, ck_l2i, ck_cmp]) ?_
        refine xZ.jc_ne (me := xm138) hP_138 rfl (fun h6 => ?_) (fun h6 => ?_)
        · skip
          refine xZ.adv (me := xm138) hP_138 2 (pc' := 662) (lv' := [(0, .ref v0), (3, .int (yw v3)), (13, .int (yw v13)), (14, .int (yw v14)), (15, .int (yw v15)), (16, .int (yw v16))]) (st' := [.int (-1 : Int32)]) rfl ?_
          refine xZ.eqs (lv2 := [(0, .ref v0), (3, .int (yw v3)), (13, .int (yw v13)), (14, .int (yw v14)), (15, .int (yw v15)), (16, .int (yw v16))]) (st2 := [.int (yw (-1))]) rfl (by simp only [yl_lit, yL_lit, yw_add, yw_sub, yw_mul, yw_neg, yl_add, yl_sub, yl_mul, cj_and, cj_or, cj_xor, cj_shl, cj_shr, cj_ushr, cj_div, cj_i2c, cj_i2b, cj_dc, ck_and, ck_or, ck_xor, ck_shl, ck_shr, ck_ushr, ck_i2l, ck_l2i, ck_cmp]) ?_
          exact xZ.sub (xsc (.head _) (xsc (.tail _ (.head _)) (xsc (.tail _ (.tail _ (.head _))) (xsc (.tail _ (.tail _ (.tail _ (.head _)))) (xsc (.tail _ (.tail _ (.tail _ (.tail _ (.tail _ (.head _)))))) xsn))))) (show ([0, 3, 13, 14, 15, 16] : List Nat).Nodup from by decide) (k_f_Law_areZones_662 O f d (f_Law_areZones_623 O f n) ih v0 v3 v13 v14 v16 (-1) M4)
        · skip
          refine xZ.adv (me := xm138) hP_138 1 (pc' := 662) (lv' := [(0, .ref v0), (3, .int (yw v3)), (13, .int (yw v13)), (14, .int (yw v14)), (15, .int (yw v15)), (16, .int (yw v16))]) (st' := [.int (yw v16)]) rfl ?_
          exact xZ.sub (xsc (.head _) (xsc (.tail _ (.head _)) (xsc (.tail _ (.tail _ (.head _))) (xsc (.tail _ (.tail _ (.tail _ (.head _)))) (xsc (.tail _ (.tail _ (.tail _ (.tail _ (.tail _ (.head _)))))) xsn))))) (show ([0, 3, 13, 14, 15, 16] : List Nat).Nodup from by decide) (k_f_Law_areZones_662 O f d (f_Law_areZones_623 O f n) ih v0 v3 v13 v14 v16 v16 M4)
      · skip
        refine xZ.adv (me := xm138) hP_138 3 (pc' := 623) (lv' := [(16, .int ((yw v16) + (1 : Int32))), (0, .ref v0), (3, .int (yw v3)), (13, .int (yw v13)), (14, .int (yw v14)), (15, .int (yw v15))]) (st' := []) rfl ?_
        refine xZ.eqs (lv2 := [(16, .int (yw (v16 + 1))), (0, .ref v0), (3, .int (yw v3)), (13, .int (yw v13)), (14, .int (yw v14)), (15, .int (yw v15))]) (st2 := []) (by simp only [yl_lit, yL_lit, yw_add, yw_sub, yw_mul, yw_neg, yl_add, yl_sub, yl_mul, cj_and, cj_or, cj_xor, cj_shl, cj_shr, cj_ushr, cj_div, cj_i2c, cj_i2b, cj_dc, ck_and, ck_or, ck_xor, ck_shl, ck_shr, ck_ushr, ck_i2l, ck_l2i, ck_cmp]) rfl ?_
        exact xZ.sub (xsc (.tail _ (.head _)) (xsc (.tail _ (.tail _ (.head _))) (xsc (.tail _ (.tail _ (.tail _ (.head _)))) (xsc (.tail _ (.tail _ (.tail _ (.tail _ (.head _))))) (xsc (.tail _ (.tail _ (.tail _ (.tail _ (.tail _ (.head _)))))) (xsc (.head _) xsn)))))) (show ([16, 0, 3, 13, 14, 15] : List Nat).Nodup from by decide) (ih v0 v3 v13 v14 v15 (v16 + 1) M4)
def f_Law_areZones_370 (O : Nat → Option va_E) (f : Nat) : Nat → Nat → Nat → Int → Int → Nat → Nat → Int → Int → Int → xM → Option (Int × xM)
  | 0, _, _, _, _, _, _, _, _, _, _ => none
  | n + 1, v0, v1, v3, v4, v5, v9, v11, v12, v13, M =>
    if yw 40 ≤ yw v13 then (
      (isO O M v1 15).bind fun _ =>
      xcl (f_LDraw_n O f v1 2 M) fun x1 M1 =>
      (aJ O M1 v9 x1).bind fun x2 =>
      (isO O M1 v1 15).bind fun _ =>
      xcl (f_LDraw_n O f v1 300 M1) fun x3 M2 =>
      xlet ((((x2 + x3) - 100) - v3) - 130) fun x4 =>
      f_Law_areZones_623 O f f v0 v3 ((x2 + x3) - 100) (-1) (-1) x4 M2
    ) else
    if yw 20 ≤ yw v13 then (
      (isO O M v1 15).bind fun _ =>
      xcl (f_LDraw_n O f v1 (1440 * (v12 - v11)) M) fun x5 M3 =>
      f_Law_areZones_426 O f (f_Law_areZones_370 O f n) v0 v1 v3 v4 v5 v9 v11 v12 v13 ((1440 * v11) + x5) M3
    ) else
    (aJ O M v9 (v13 - (jdiv v13 2) * 2)).bind fun x6 =>
    (isO O M v1 15).bind fun _ =>
    xcl (f_LDraw_n O f v1 400 M) fun x7 M4 =>
    f_Law_areZones_426 O f (f_Law_areZones_370 O f n) v0 v1 v3 v4 v5 v9 v11 v12 v13 ((x6 + x7) - 200) M4
set_option maxRecDepth 20000 in
theorem k_f_Law_areZones_370 (O : Nat → Option va_E) (f d : Nat) : ∀ (n : Nat) (v0 : Nat) (v1 : Nat) (v3 : Int) (v4 : Int) (v5 : Nat) (v9 : Nat) (v11 : Int) (v12 : Int) (v13 : Int) (M : xM), xZ oJ O (d + 7) 138 370 [(0, .ref v0), (1, .ref v1), (3, .int (yw v3)), (4, .int (yw v4)), (5, .ref v5), (9, .ref v9), (11, .int (yw v11)), (12, .int (yw v12)), (13, .int (yw v13))] [] M (f_Law_areZones_370 O f n v0 v1 v3 v4 v5 v9 v11 v12 v13 M) := by
  intro n
  induction n with
  | zero =>
    intro v0 v1 v3 v4 v5 v9 v11 v12 v13 M
    exact xZ.no
  | succ n ih =>
    intro v0 v1 v3 v4 v5 v9 v11 v12 v13 M
    unfold f_Law_areZones_370
    refine xZ.adv (me := xm138) hP_138 2 (pc' := 374) (lv' := [(0, .ref v0), (1, .ref v1), (3, .int (yw v3)), (4, .int (yw v4)), (5, .ref v5), (9, .ref v9), (11, .int (yw v11)), (12, .int (yw v12)), (13, .int (yw v13))]) (st' := [.int (40 : Int32), .int (yw v13)]) rfl ?_
    refine xZ.eqs (lv2 := [(0, .ref v0), (1, .ref v1), (3, .int (yw v3)), (4, .int (yw v4)), (5, .ref v5), (9, .ref v9), (11, .int (yw v11)), (12, .int (yw v12)), (13, .int (yw v13))]) (st2 := [.int (yw 40), .int (yw v13)]) rfl (by simp only [yl_lit, yL_lit, yw_add, yw_sub, yw_mul, yw_neg, yl_add, yl_sub, yl_mul, cj_and, cj_or, cj_xor, cj_shl, cj_shr, cj_ushr, cj_div, cj_i2c, cj_i2b, cj_dc, ck_and, ck_or, ck_xor, ck_shl, ck_shr, ck_ushr, ck_i2l, ck_l2i, ck_cmp]) ?_
    refine xZ.jc_ge (me := xm138) hP_138 rfl (fun h1 => ?_) (fun h1 => ?_)
    · skip
      refine xZ.adv (me := xm138) hP_138 3 (pc' := 590) (lv' := [(0, .ref v0), (1, .ref v1), (3, .int (yw v3)), (4, .int (yw v4)), (5, .ref v5), (9, .ref v9), (11, .int (yw v11)), (12, .int (yw v12)), (13, .int (yw v13))]) (st' := [.int (2 : Int32), .ref v1, .ref v9]) rfl ?_
      refine xZ.eqs (lv2 := [(0, .ref v0), (1, .ref v1), (3, .int (yw v3)), (4, .int (yw v4)), (5, .ref v5), (9, .ref v9), (11, .int (yw v11)), (12, .int (yw v12)), (13, .int (yw v13))]) (st2 := [.int (yw 2), .ref v1, .ref v9]) rfl (by simp only [yl_lit, yL_lit, yw_add, yw_sub, yw_mul, yw_neg, yl_add, yl_sub, yl_mul, cj_and, cj_or, cj_xor, cj_shl, cj_shr, cj_ushr, cj_div, cj_i2c, cj_i2b, cj_dc, ck_and, ck_or, ck_xor, ck_shl, ck_shr, ck_ushr, ck_i2l, ck_l2i, ck_cmp]) ?_
      refine xZ.callv (κ := oJ) (av := [.int (yw 2)]) (rest := [.ref v9]) (st' := fun x1 => [.int (yw x1), .ref v9]) (k0 := v1) (me := xm138) hP_138 rfl (Or.inl rfl) ⟨rfl, by decide⟩ rfl rfl (Nat.le_of_ble_eq_true rfl) (by decide) hP_12 (Nat.le_of_ble_eq_true rfl) (fun _ => rfl) (k_f_LDraw_n O f (d + 6) v1 2 M) (fun x1 M1 => ?_)
      refine xZ.k_aJ (me := xm138) hP_138 rfl (fun x2 => ?_)
      refine xZ.adv (me := xm138) hP_138 2 (pc' := 598) (lv' := [(0, .ref v0), (1, .ref v1), (3, .int (yw v3)), (4, .int (yw v4)), (5, .ref v5), (9, .ref v9), (11, .int (yw v11)), (12, .int (yw v12)), (13, .int (yw v13))]) (st' := [.int (300 : Int32), .ref v1, .int (yw x2)]) rfl ?_
      refine xZ.eqs (lv2 := [(0, .ref v0), (1, .ref v1), (3, .int (yw v3)), (4, .int (yw v4)), (5, .ref v5), (9, .ref v9), (11, .int (yw v11)), (12, .int (yw v12)), (13, .int (yw v13))]) (st2 := [.int (yw 300), .ref v1, .int (yw x2)]) rfl (by simp only [yl_lit, yL_lit, yw_add, yw_sub, yw_mul, yw_neg, yl_add, yl_sub, yl_mul, cj_and, cj_or, cj_xor, cj_shl, cj_shr, cj_ushr, cj_div, cj_i2c, cj_i2b, cj_dc, ck_and, ck_or, ck_xor, ck_shl, ck_shr, ck_ushr, ck_i2l, ck_l2i, ck_cmp]) ?_
      refine xZ.callv (κ := oJ) (av := [.int (yw 300)]) (rest := [.int (yw x2)]) (st' := fun x3 => [.int (yw x3), .int (yw x2)]) (k0 := v1) (me := xm138) hP_138 rfl (Or.inl rfl) ⟨rfl, by decide⟩ rfl rfl (Nat.le_of_ble_eq_true rfl) (by decide) hP_12 (Nat.le_of_ble_eq_true rfl) (fun _ => rfl) (k_f_LDraw_n O f (d + 6) v1 300 M1) (fun x3 M2 => ?_)
      refine xZ.adv (me := xm138) hP_138 14 (pc' := 623) (lv' := [(16, .int (((((yw x2) + (yw x3)) - (100 : Int32)) - (yw v3)) - (130 : Int32))), (15, .int (-1 : Int32)), (14, .int (-1 : Int32)), (13, .int (((yw x2) + (yw x3)) - (100 : Int32))), (0, .ref v0), (1, .ref v1), (3, .int (yw v3)), (4, .int (yw v4)), (5, .ref v5), (9, .ref v9), (11, .int (yw v11)), (12, .int (yw v12))]) (st' := []) rfl ?_
      refine xZ.eqs (lv2 := [(16, .int (yw ((((x2 + x3) - 100) - v3) - 130))), (15, .int (yw (-1))), (14, .int (yw (-1))), (13, .int (yw ((x2 + x3) - 100))), (0, .ref v0), (1, .ref v1), (3, .int (yw v3)), (4, .int (yw v4)), (5, .ref v5), (9, .ref v9), (11, .int (yw v11)), (12, .int (yw v12))]) (st2 := []) (by simp only [yl_lit, yL_lit, yw_add, yw_sub, yw_mul, yw_neg, yl_add, yl_sub, yl_mul, cj_and, cj_or, cj_xor, cj_shl, cj_shr, cj_ushr, cj_div, cj_i2c, cj_i2b, cj_dc, ck_and, ck_or, ck_xor, ck_shl, ck_shr, ck_ushr, ck_i2l, ck_l2i, ck_cmp]) rfl ?_
      refine xZ.letI (v := ((((x2 + x3) - 100) - v3) - 130)) (lvf := fun x4 => [(16, .int (yw x4)), (15, .int (yw (-1))), (14, .int (yw (-1))), (13, .int (yw ((x2 + x3) - 100))), (0, .ref v0), (1, .ref v1), (3, .int (yw v3)), (4, .int (yw v4)), (5, .ref v5), (9, .ref v9), (11, .int (yw v11)), (12, .int (yw v12))]) (stf := fun x4 => []) ?_
      intro x4
      exact xZ.sub (xsc (.tail _ (.tail _ (.tail _ (.tail _ (.head _))))) (xsc (.tail _ (.tail _ (.tail _ (.tail _ (.tail _ (.tail _ (.head _))))))) (xsc (.tail _ (.tail _ (.tail _ (.head _)))) (xsc (.tail _ (.tail _ (.head _))) (xsc (.tail _ (.head _)) (xsc (.head _) xsn)))))) (show ([16, 15, 14, 13, 0, 1, 3, 4, 5, 9, 11, 12] : List Nat).Nodup from by decide) (k_f_Law_areZones_623 O f d f v0 v3 ((x2 + x3) - 100) (-1) (-1) x4 M2)
    · skip
      refine xZ.adv (me := xm138) hP_138 2 (pc' := 381) (lv' := [(0, .ref v0), (1, .ref v1), (3, .int (yw v3)), (4, .int (yw v4)), (5, .ref v5), (9, .ref v9), (11, .int (yw v11)), (12, .int (yw v12)), (13, .int (yw v13))]) (st' := [.int (20 : Int32), .int (yw v13)]) rfl ?_
      refine xZ.eqs (lv2 := [(0, .ref v0), (1, .ref v1), (3, .int (yw v3)), (4, .int (yw v4)), (5, .ref v5), (9, .ref v9), (11, .int (yw v11)), (12, .int (yw v12)), (13, .int (yw v13))]) (st2 := [.int (yw 20), .int (yw v13)]) rfl (by simp only [yl_lit, yL_lit, yw_add, yw_sub, yw_mul, yw_neg, yl_add, yl_sub, yl_mul, cj_and, cj_or, cj_xor, cj_shl, cj_shr, cj_ushr, cj_div, cj_i2c, cj_i2b, cj_dc, ck_and, ck_or, ck_xor, ck_shl, ck_shr, ck_ushr, ck_i2l, ck_l2i, ck_cmp]) ?_
      refine xZ.jc_ge (me := xm138) hP_138 rfl (fun h2 => ?_) (fun h2 => ?_)
      · skip
        refine xZ.adv (me := xm138) hP_138 9 (pc' := 422) (lv' := [(0, .ref v0), (1, .ref v1), (3, .int (yw v3)), (4, .int (yw v4)), (5, .ref v5), (9, .ref v9), (11, .int (yw v11)), (12, .int (yw v12)), (13, .int (yw v13))]) (st' := [.int ((1440 : Int32) * ((yw v12) - (yw v11))), .ref v1, .int ((1440 : Int32) * (yw v11))]) rfl ?_
        refine xZ.eqs (lv2 := [(0, .ref v0), (1, .ref v1), (3, .int (yw v3)), (4, .int (yw v4)), (5, .ref v5), (9, .ref v9), (11, .int (yw v11)), (12, .int (yw v12)), (13, .int (yw v13))]) (st2 := [.int (yw (1440 * (v12 - v11))), .ref v1, .int (yw (1440 * v11))]) rfl (by simp only [yl_lit, yL_lit, yw_add, yw_sub, yw_mul, yw_neg, yl_add, yl_sub, yl_mul, cj_and, cj_or, cj_xor, cj_shl, cj_shr, cj_ushr, cj_div, cj_i2c, cj_i2b, cj_dc, ck_and, ck_or, ck_xor, ck_shl, ck_shr, ck_ushr, ck_i2l, ck_l2i, ck_cmp]) ?_
        refine xZ.callv (κ := oJ) (av := [.int (yw (1440 * (v12 - v11)))]) (rest := [.int (yw (1440 * v11))]) (st' := fun x5 => [.int (yw x5), .int (yw (1440 * v11))]) (k0 := v1) (me := xm138) hP_138 rfl (Or.inl rfl) ⟨rfl, by decide⟩ rfl rfl (Nat.le_of_ble_eq_true rfl) (by decide) hP_12 (Nat.le_of_ble_eq_true rfl) (fun _ => rfl) (k_f_LDraw_n O f (d + 6) v1 (1440 * (v12 - v11)) M) (fun x5 M3 => ?_)
        refine xZ.adv (me := xm138) hP_138 1 (pc' := 426) (lv' := [(0, .ref v0), (1, .ref v1), (3, .int (yw v3)), (4, .int (yw v4)), (5, .ref v5), (9, .ref v9), (11, .int (yw v11)), (12, .int (yw v12)), (13, .int (yw v13))]) (st' := [.int ((yw (1440 * v11)) + (yw x5))]) rfl ?_
        refine xZ.eqs (lv2 := [(0, .ref v0), (1, .ref v1), (3, .int (yw v3)), (4, .int (yw v4)), (5, .ref v5), (9, .ref v9), (11, .int (yw v11)), (12, .int (yw v12)), (13, .int (yw v13))]) (st2 := [.int (yw ((1440 * v11) + x5))]) rfl (by simp only [yl_lit, yL_lit, yw_add, yw_sub, yw_mul, yw_neg, yl_add, yl_sub, yl_mul, cj_and, cj_or, cj_xor, cj_shl, cj_shr, cj_ushr, cj_div, cj_i2c, cj_i2b, cj_dc, ck_and, ck_or, ck_xor, ck_shl, ck_shr, ck_ushr, ck_i2l, ck_l2i, ck_cmp]) ?_
        exact (k_f_Law_areZones_426 O f d (f_Law_areZones_370 O f n) ih v0 v1 v3 v4 v5 v9 v11 v12 v13 ((1440 * v11) + x5) M3)
      · skip
        refine xZ.adv (me := xm138) hP_138 4 (pc' := 390) (lv' := [(0, .ref v0), (1, .ref v1), (3, .int (yw v3)), (4, .int (yw v4)), (5, .ref v5), (9, .ref v9), (11, .int (yw v11)), (12, .int (yw v12)), (13, .int (yw v13))]) (st' := [.int ((yw v13) - (yw v13) / (2 : Int32) * (2 : Int32)), .ref v9]) rfl ?_
        refine xZ.eqs (lv2 := [(0, .ref v0), (1, .ref v1), (3, .int (yw v3)), (4, .int (yw v4)), (5, .ref v5), (9, .ref v9), (11, .int (yw v11)), (12, .int (yw v12)), (13, .int (yw v13))]) (st2 := [.int (yw (v13 - (jdiv v13 2) * 2)), .ref v9]) rfl (by simp only [yl_lit, yL_lit, yw_add, yw_sub, yw_mul, yw_neg, yl_add, yl_sub, yl_mul, cj_and, cj_or, cj_xor, cj_shl, cj_shr, cj_ushr, cj_div, cj_i2c, cj_i2b, cj_dc, ck_and, ck_or, ck_xor, ck_shl, ck_shr, ck_ushr, ck_i2l, ck_l2i, ck_cmp]) ?_
        refine xZ.k_aJ (me := xm138) hP_138 rfl (fun x6 => ?_)
        refine xZ.adv (me := xm138) hP_138 2 (pc' := 395) (lv' := [(0, .ref v0), (1, .ref v1), (3, .int (yw v3)), (4, .int (yw v4)), (5, .ref v5), (9, .ref v9), (11, .int (yw v11)), (12, .int (yw v12)), (13, .int (yw v13))]) (st' := [.int (400 : Int32), .ref v1, .int (yw x6)]) rfl ?_
        refine xZ.eqs (lv2 := [(0, .ref v0), (1, .ref v1), (3, .int (yw v3)), (4, .int (yw v4)), (5, .ref v5), (9, .ref v9), (11, .int (yw v11)), (12, .int (yw v12)), (13, .int (yw v13))]) (st2 := [.int (yw 400), .ref v1, .int (yw x6)]) rfl (by simp only [yl_lit, yL_lit, yw_add, yw_sub, yw_mul, yw_neg, yl_add, yl_sub, yl_mul, cj_and, cj_or, cj_xor, cj_shl, cj_shr, cj_ushr, cj_div, cj_i2c, cj_i2b, cj_dc, ck_and, ck_or, ck_xor, ck_shl, ck_shr, ck_ushr, ck_i2l, ck_l2i, ck_cmp]) ?_
        refine xZ.callv (κ := oJ) (av := [.int (yw 400)]) (rest := [.int (yw x6)]) (st' := fun x7 => [.int (yw x7), .int (yw x6)]) (k0 := v1) (me := xm138) hP_138 rfl (Or.inl rfl) ⟨rfl, by decide⟩ rfl rfl (Nat.le_of_ble_eq_true rfl) (by decide) hP_12 (Nat.le_of_ble_eq_true rfl) (fun _ => rfl) (k_f_LDraw_n O f (d + 6) v1 400 M) (fun x7 M4 => ?_)
        refine xZ.adv (me := xm138) hP_138 4 (pc' := 426) (lv' := [(0, .ref v0), (1, .ref v1), (3, .int (yw v3)), (4, .int (yw v4)), (5, .ref v5), (9, .ref v9), (11, .int (yw v11)), (12, .int (yw v12)), (13, .int (yw v13))]) (st' := [.int (((yw x6) + (yw x7)) - (200 : Int32))]) rfl ?_
        refine xZ.eqs (lv2 := [(0, .ref v0), (1, .ref v1), (3, .int (yw v3)), (4, .int (yw v4)), (5, .ref v5), (9, .ref v9), (11, .int (yw v11)), (12, .int (yw v12)), (13, .int (yw v13))]) (st2 := [.int (yw ((x6 + x7) - 200))]) rfl (by simp only [yl_lit, yL_lit, yw_add, yw_sub, yw_mul, yw_neg, yl_add, yl_sub, yl_mul, cj_and, cj_or, cj_xor, cj_shl, cj_shr, cj_ushr, cj_div, cj_i2c, cj_i2b, cj_dc, ck_and, ck_or, ck_xor, ck_shl, ck_shr, ck_ushr, ck_i2l, ck_l2i, ck_cmp]) ?_
        exact (k_f_Law_areZones_426 O f d (f_Law_areZones_370 O f n) ih v0 v1 v3 v4 v5 v9 v11 v12 v13 ((x6 + x7) - 200) M4)
def f_Law_areZones_349 (O : Nat → Option va_E) (f : Nat) : Nat → Nat → Nat → Nat → Int → Int → Nat → Nat → Int → Int → Int → xM → Option (Int × xM)
  | 0, _, _, _, _, _, _, _, _, _, _, _ => none
  | n + 1, v0, v1, v2, v3, v4, v5, v9, v10, v11, v12, M =>
    (gR O M v2 14 0).bind fun x1 =>
    (aJ O M x1 v12).bind fun x2 =>
    if yw x2 = yw v10 then (
      f_Law_areZones_349 O f n v0 v1 v2 v3 v4 v5 v9 v10 v11 (v12 + 1) M
    ) else
    f_Law_areZones_370 O f f v0 v1 v3 v4 v5 v9 v11 v12 0 M
set_option maxRecDepth 20000 in
theorem k_f_Law_areZones_349 (O : Nat → Option va_E) (f d : Nat) : ∀ (n : Nat) (v0 : Nat) (v1 : Nat) (v2 : Nat) (v3 : Int) (v4 : Int) (v5 : Nat) (v9 : Nat) (v10 : Int) (v11 : Int) (v12 : Int) (M : xM), xZ oJ O (d + 7) 138 349 [(0, .ref v0), (1, .ref v1), (2, .ref v2), (3, .int (yw v3)), (4, .int (yw v4)), (5, .ref v5), (9, .ref v9), (10, .int (yw v10)), (11, .int (yw v11)), (12, .int (yw v12))] [] M (f_Law_areZones_349 O f n v0 v1 v2 v3 v4 v5 v9 v10 v11 v12 M) := by
  intro n
  induction n with
  | zero =>
    intro v0 v1 v2 v3 v4 v5 v9 v10 v11 v12 M
    exact xZ.no
  | succ n ih =>
    intro v0 v1 v2 v3 v4 v5 v9 v10 v11 v12 M
    unfold f_Law_areZones_349
    refine xZ.adv (me := xm138) hP_138 1 (pc' := 350) (lv' := [(0, .ref v0), (1, .ref v1), (2, .ref v2), (3, .int (yw v3)), (4, .int (yw v4)), (5, .ref v5), (9, .ref v9), (10, .int (yw v10)), (11, .int (yw v11)), (12, .int (yw v12))]) (st' := [.ref v2]) rfl ?_
    refine xZ.k_gR (me := xm138) hP_138 rfl (fun x1 => ?_)
    refine xZ.adv (me := xm138) hP_138 1 (pc' := 355) (lv' := [(0, .ref v0), (1, .ref v1), (2, .ref v2), (3, .int (yw v3)), (4, .int (yw v4)), (5, .ref v5), (9, .ref v9), (10, .int (yw v10)), (11, .int (yw v11)), (12, .int (yw v12))]) (st' := [.int (yw v12), .ref x1]) rfl ?_
    refine xZ.k_aJ (me := xm138) hP_138 rfl (fun x2 => ?_)
    refine xZ.adv (me := xm138) hP_138 1 (pc' := 358) (lv' := [(0, .ref v0), (1, .ref v1), (2, .ref v2), (3, .int (yw v3)), (4, .int (yw v4)), (5, .ref v5), (9, .ref v9), (10, .int (yw v10)), (11, .int (yw v11)), (12, .int (yw v12))]) (st' := [.int (yw v10), .int (yw x2)]) rfl ?_
    refine xZ.jc_ne (me := xm138) hP_138 rfl (fun h1 => ?_) (fun h1 => ?_)
    · skip
      refine xZ.adv (me := xm138) hP_138 2 (pc' := 349) (lv' := [(12, .int ((yw v12) + (1 : Int32))), (0, .ref v0), (1, .ref v1), (2, .ref v2), (3, .int (yw v3)), (4, .int (yw v4)), (5, .ref v5), (9, .ref v9), (10, .int (yw v10)), (11, .int (yw v11))]) (st' := []) rfl ?_
      refine xZ.eqs (lv2 := [(12, .int (yw (v12 + 1))), (0, .ref v0), (1, .ref v1), (2, .ref v2), (3, .int (yw v3)), (4, .int (yw v4)), (5, .ref v5), (9, .ref v9), (10, .int (yw v10)), (11, .int (yw v11))]) (st2 := []) (by simp only [yl_lit, yL_lit, yw_add, yw_sub, yw_mul, yw_neg, yl_add, yl_sub, yl_mul, cj_and, cj_or, cj_xor, cj_shl, cj_shr, cj_ushr, cj_div, cj_i2c, cj_i2b, cj_dc, ck_and, ck_or, ck_xor, ck_shl, ck_shr, ck_ushr, ck_i2l, ck_l2i, ck_cmp]) rfl ?_
      exact xZ.sub (xsc (.tail _ (.head _)) (xsc (.tail _ (.tail _ (.head _))) (xsc (.tail _ (.tail _ (.tail _ (.head _)))) (xsc (.tail _ (.tail _ (.tail _ (.tail _ (.head _))))) (xsc (.tail _ (.tail _ (.tail _ (.tail _ (.tail _ (.head _)))))) (xsc (.tail _ (.tail _ (.tail _ (.tail _ (.tail _ (.tail _ (.head _))))))) (xsc (.tail _ (.tail _ (.tail _ (.tail _ (.tail _ (.tail _ (.tail _ (.head _)))))))) (xsc (.tail _ (.tail _ (.tail _ (.tail _ (.tail _ (.tail _ (.tail _ (.tail _ (.head _))))))))) (xsc (.tail _ (.tail _ (.tail _ (.tail _ (.tail _ (.tail _ (.tail _ (.tail _ (.tail _ (.head _)))))))))) (xsc (.head _) xsn)))))))))) (show ([12, 0, 1, 2, 3, 4, 5, 9, 10, 11] : List Nat).Nodup from by decide) (ih v0 v1 v2 v3 v4 v5 v9 v10 v11 (v12 + 1) M)
    · skip
      refine xZ.adv (me := xm138) hP_138 2 (pc' := 370) (lv' := [(13, .int (0 : Int32)), (0, .ref v0), (1, .ref v1), (2, .ref v2), (3, .int (yw v3)), (4, .int (yw v4)), (5, .ref v5), (9, .ref v9), (10, .int (yw v10)), (11, .int (yw v11)), (12, .int (yw v12))]) (st' := []) rfl ?_
      refine xZ.eqs (lv2 := [(13, .int (yw 0)), (0, .ref v0), (1, .ref v1), (2, .ref v2), (3, .int (yw v3)), (4, .int (yw v4)), (5, .ref v5), (9, .ref v9), (10, .int (yw v10)), (11, .int (yw v11)), (12, .int (yw v12))]) (st2 := []) (by simp only [yl_lit, yL_lit, yw_add, yw_sub, yw_mul, yw_neg, yl_add, yl_sub, yl_mul, cj_and, cj_or, cj_xor, cj_shl, cj_shr, cj_ushr, cj_div, cj_i2c, cj_i2b, cj_dc, ck_and, ck_or, ck_xor, ck_shl, ck_shr, ck_ushr, ck_i2l, ck_l2i, ck_cmp]) rfl ?_
      exact xZ.sub (xsc (.tail _ (.head _)) (xsc (.tail _ (.tail _ (.head _))) (xsc (.tail _ (.tail _ (.tail _ (.tail _ (.head _))))) (xsc (.tail _ (.tail _ (.tail _ (.tail _ (.tail _ (.head _)))))) (xsc (.tail _ (.tail _ (.tail _ (.tail _ (.tail _ (.tail _ (.head _))))))) (xsc (.tail _ (.tail _ (.tail _ (.tail _ (.tail _ (.tail _ (.tail _ (.head _)))))))) (xsc (.tail _ (.tail _ (.tail _ (.tail _ (.tail _ (.tail _ (.tail _ (.tail _ (.tail _ (.head _)))))))))) (xsc (.tail _ (.tail _ (.tail _ (.tail _ (.tail _ (.tail _ (.tail _ (.tail _ (.tail _ (.tail _ (.head _))))))))))) (xsc (.head _) xsn))))))))) (show ([13, 0, 1, 2, 3, 4, 5, 9, 10, 11, 12] : List Nat).Nodup from by decide) (k_f_Law_areZones_370 O f d f v0 v1 v3 v4 v5 v9 v11 v12 0 M)
def f_Law_areZones_327 (O : Nat → Option va_E) (f : Nat) : Nat → Nat → Nat → Nat → Int → Int → Nat → Nat → Int → Int → xM → Option (Int × xM)
  | 0, _, _, _, _, _, _, _, _, _, _ => none
  | n + 1, v0, v1, v2, v3, v4, v5, v9, v10, v11, M =>
    (gR O M v2 14 0).bind fun x1 =>
    (aJ O M x1 v11).bind fun x2 =>
    if yw x2 = yw v10 then (
      f_Law_areZones_349 O f f v0 v1 v2 v3 v4 v5 v9 v10 v11 v11 M
    ) else
    f_Law_areZones_327 O f n v0 v1 v2 v3 v4 v5 v9 v10 (v11 + 1) M
set_option maxRecDepth 20000 in
theorem k_f_Law_areZones_327 (O : Nat → Option va_E) (f d : Nat) : ∀ (n : Nat) (v0 : Nat) (v1 : Nat) (v2 : Nat) (v3 : Int) (v4 : Int) (v5 : Nat) (v9 : Nat) (v10 : Int) (v11 : Int) (M : xM), xZ oJ O (d + 7) 138 327 [(0, .ref v0), (1, .ref v1), (2, .ref v2), (3, .int (yw v3)), (4, .int (yw v4)), (5, .ref v5), (9, .ref v9), (10, .int (yw v10)), (11, .int (yw v11))] [] M (f_Law_areZones_327 O f n v0 v1 v2 v3 v4 v5 v9 v10 v11 M) := by
  intro n
  induction n with
  | zero =>
    intro v0 v1 v2 v3 v4 v5 v9 v10 v11 M
    exact xZ.no
  | succ n ih =>
    intro v0 v1 v2 v3 v4 v5 v9 v10 v11 M
    unfold f_Law_areZones_327
    refine xZ.adv (me := xm138) hP_138 1 (pc' := 328) (lv' := [(0, .ref v0), (1, .ref v1), (2, .ref v2), (3, .int (yw v3)), (4, .int (yw v4)), (5, .ref v5), (9, .ref v9), (10, .int (yw v10)), (11, .int (yw v11))]) (st' := [.ref v2]) rfl ?_
    refine xZ.k_gR (me := xm138) hP_138 rfl (fun x1 => ?_)
    refine xZ.adv (me := xm138) hP_138 1 (pc' := 333) (lv' := [(0, .ref v0), (1, .ref v1), (2, .ref v2), (3, .int (yw v3)), (4, .int (yw v4)), (5, .ref v5), (9, .ref v9), (10, .int (yw v10)), (11, .int (yw v11))]) (st' := [.int (yw v11), .ref x1]) rfl ?_
    refine xZ.k_aJ (me := xm138) hP_138 rfl (fun x2 => ?_)
    refine xZ.adv (me := xm138) hP_138 1 (pc' := 336) (lv' := [(0, .ref v0), (1, .ref v1), (2, .ref v2), (3, .int (yw v3)), (4, .int (yw v4)), (5, .ref v5), (9, .ref v9), (10, .int (yw v10)), (11, .int (yw v11))]) (st' := [.int (yw v10), .int (yw x2)]) rfl ?_
    refine xZ.jc_eq (me := xm138) hP_138 rfl (fun h1 => ?_) (fun h1 => ?_)
    · skip
      refine xZ.adv (me := xm138) hP_138 2 (pc' := 349) (lv' := [(12, .int (yw v11)), (0, .ref v0), (1, .ref v1), (2, .ref v2), (3, .int (yw v3)), (4, .int (yw v4)), (5, .ref v5), (9, .ref v9), (10, .int (yw v10)), (11, .int (yw v11))]) (st' := []) rfl ?_
      exact xZ.sub (xsc (.tail _ (.head _)) (xsc (.tail _ (.tail _ (.head _))) (xsc (.tail _ (.tail _ (.tail _ (.head _)))) (xsc (.tail _ (.tail _ (.tail _ (.tail _ (.head _))))) (xsc (.tail _ (.tail _ (.tail _ (.tail _ (.tail _ (.head _)))))) (xsc (.tail _ (.tail _ (.tail _ (.tail _ (.tail _ (.tail _ (.head _))))))) (xsc (.tail _ (.tail _ (.tail _ (.tail _ (.tail _ (.tail _ (.tail _ (.head _)))))))) (xsc (.tail _ (.tail _ (.tail _ (.tail _ (.tail _ (.tail _ (.tail _ (.tail _ (.head _))))))))) (xsc (.tail _ (.tail _ (.tail _ (.tail _ (.tail _ (.tail _ (.tail _ (.tail _ (.tail _ (.head _)))))))))) (xsc (.head _) xsn)))))))))) (show ([12, 0, 1, 2, 3, 4, 5, 9, 10, 11] : List Nat).Nodup from by decide) (k_f_Law_areZones_349 O f d f v0 v1 v2 v3 v4 v5 v9 v10 v11 v11 M)
    · skip
      refine xZ.adv (me := xm138) hP_138 2 (pc' := 327) (lv' := [(11, .int ((yw v11) + (1 : Int32))), (0, .ref v0), (1, .ref v1), (2, .ref v2), (3, .int (yw v3)), (4, .int (yw v4)), (5, .ref v5), (9, .ref v9), (10, .int (yw v10))]) (st' := []) rfl ?_
      refine xZ.eqs (lv2 := [(11, .int (yw (v11 + 1))), (0, .ref v0), (1, .ref v1), (2, .ref v2), (3, .int (yw v3)), (4, .int (yw v4)), (5, .ref v5), (9, .ref v9), (10, .int (yw v10))]) (st2 := []) (by simp only [yl_lit, yL_lit, yw_add, yw_sub, yw_mul, yw_neg, yl_add, yl_sub, yl_mul, cj_and, cj_or, cj_xor, cj_shl, cj_shr, cj_ushr, cj_div, cj_i2c, cj_i2b, cj_dc, ck_and, ck_or, ck_xor, ck_shl, ck_shr, ck_ushr, ck_i2l, ck_l2i, ck_cmp]) rfl ?_
      exact xZ.sub (xsc (.tail _ (.head _)) (xsc (.tail _ (.tail _ (.head _))) (xsc (.tail _ (.tail _ (.tail _ (.head _)))) (xsc (.tail _ (.tail _ (.tail _ (.tail _ (.head _))))) (xsc (.tail _ (.tail _ (.tail _ (.tail _ (.tail _ (.head _)))))) (xsc (.tail _ (.tail _ (.tail _ (.tail _ (.tail _ (.tail _ (.head _))))))) (xsc (.tail _ (.tail _ (.tail _ (.tail _ (.tail _ (.tail _ (.tail _ (.head _)))))))) (xsc (.tail _ (.tail _ (.tail _ (.tail _ (.tail _ (.tail _ (.tail _ (.tail _ (.head _))))))))) (xsc (.head _) xsn))))))))) (show ([11, 0, 1, 2, 3, 4, 5, 9, 10] : List Nat).Nodup from by decide) (ih v0 v1 v2 v3 v4 v5 v9 v10 (v11 + 1) M)
def f_Law_areZones_205 (O : Nat → Option va_E) (f : Nat) : Nat → Nat → Nat → Nat → Int → Int → Nat → Nat → Nat → Nat → Nat → Int → Int → xM → Option (Int × xM)
  | 0, _, _, _, _, _, _, _, _, _, _, _, _, _ => none
  | n + 1, v0, v1, v2, v3, v4, v5, v6, v7, v8, v9, v10, v11, M =>
    if yw 2 ≤ yw v11 then (
      f_Law_areZones_327 O f f v0 v1 v2 v3 v4 v5 v9 v10 0 M
    ) else
    f_Law_areZones_214 O f (f_Law_areZones_205 O f n) f v0 v1 v2 v3 v4 v5 v6 v7 v8 v9 v10 v11 0 M
set_option maxRecDepth 20000 in
theorem k_f_Law_areZones_205 (O : Nat → Option va_E) (f d : Nat) : ∀ (n : Nat) (v0 : Nat) (v1 : Nat) (v2 : Nat) (v3 : Int) (v4 : Int) (v5 : Nat) (v6 : Nat) (v7 : Nat) (v8 : Nat) (v9 : Nat) (v10 : Int) (v11 : Int) (M : xM), xZ oJ O (d + 7) 138 205 [(0, .ref v0), (1, .ref v1), (2, .ref v2), (3, .int (yw v3)), (4, .int (yw v4)), (5, .ref v5), (6, .ref v6), (7, .ref v7), (8, .ref v8), (9, .ref v9), (10, .int (yw v10)), (11, .int (yw v11))] [] M (f_Law_areZones_205 O f n v0 v1 v2 v3 v4 v5 v6 v7 v8 v9 v10 v11 M) := by
  intro n
  induction n with
  | zero =>
    intro v0 v1 v2 v3 v4 v5 v6 v7 v8 v9 v10 v11 M
    exact xZ.no
  | succ n ih =>
    intro v0 v1 v2 v3 v4 v5 v6 v7 v8 v9 v10 v11 M
    unfold f_Law_areZones_205
    refine xZ.adv (me := xm138) hP_138 2 (pc' := 208) (lv' := [(0, .ref v0), (1, .ref v1), (2, .ref v2), (3, .int (yw v3)), (4, .int (yw v4)), (5, .ref v5), (6, .ref v6), (7, .ref v7), (8, .ref v8), (9, .ref v9), (10, .int (yw v10)), (11, .int (yw v11))]) (st' := [.int (2 : Int32), .int (yw v11)]) rfl ?_
    refine xZ.eqs (lv2 := [(0, .ref v0), (1, .ref v1), (2, .ref v2), (3, .int (yw v3)), (4, .int (yw v4)), (5, .ref v5), (6, .ref v6), (7, .ref v7), (8, .ref v8), (9, .ref v9), (10, .int (yw v10)), (11, .int (yw v11))]) (st2 := [.int (yw 2), .int (yw v11)]) rfl (by simp only [yl_lit, yL_lit, yw_add, yw_sub, yw_mul, yw_neg, yl_add, yl_sub, yl_mul, cj_and, cj_or, cj_xor, cj_shl, cj_shr, cj_ushr, cj_div, cj_i2c, cj_i2b, cj_dc, ck_and, ck_or, ck_xor, ck_shl, ck_shr, ck_ushr, ck_i2l, ck_l2i, ck_cmp]) ?_
    refine xZ.jc_ge (me := xm138) hP_138 rfl (fun h1 => ?_) (fun h1 => ?_)
    · skip
      refine xZ.adv (me := xm138) hP_138 2 (pc' := 327) (lv' := [(11, .int (0 : Int32)), (0, .ref v0), (1, .ref v1), (2, .ref v2), (3, .int (yw v3)), (4, .int (yw v4)), (5, .ref v5), (6, .ref v6), (7, .ref v7), (8, .ref v8), (9, .ref v9), (10, .int (yw v10))]) (st' := []) rfl ?_
      refine xZ.eqs (lv2 := [(11, .int (yw 0)), (0, .ref v0), (1, .ref v1), (2, .ref v2), (3, .int (yw v3)), (4, .int (yw v4)), (5, .ref v5), (6, .ref v6), (7, .ref v7), (8, .ref v8), (9, .ref v9), (10, .int (yw v10))]) (st2 := []) (by simp only [yl_lit, yL_lit, yw_add, yw_sub, yw_mul, yw_neg, yl_add, yl_sub, yl_mul, cj_and, cj_or, cj_xor, cj_shl, cj_shr, cj_ushr, cj_div, cj_i2c, cj_i2b, cj_dc, ck_and, ck_or, ck_xor, ck_shl, ck_shr, ck_ushr, ck_i2l, ck_l2i, ck_cmp]) rfl ?_
      exact xZ.sub (xsc (.tail _ (.head _)) (xsc (.tail _ (.tail _ (.head _))) (xsc (.tail _ (.tail _ (.tail _ (.head _)))) (xsc (.tail _ (.tail _ (.tail _ (.tail _ (.head _))))) (xsc (.tail _ (.tail _ (.tail _ (.tail _ (.tail _ (.head _)))))) (xsc (.tail _ (.tail _ (.tail _ (.tail _ (.tail _ (.tail _ (.head _))))))) (xsc (.tail _ (.tail _ (.tail _ (.tail _ (.tail _ (.tail _ (.tail _ (.tail _ (.tail _ (.tail _ (.head _))))))))))) (xsc (.tail _ (.tail _ (.tail _ (.tail _ (.tail _ (.tail _ (.tail _ (.tail _ (.tail _ (.tail _ (.tail _ (.head _)))))))))))) (xsc (.head _) xsn))))))))) (show ([11, 0, 1, 2, 3, 4, 5, 6, 7, 8, 9, 10] : List Nat).Nodup from by decide) (k_f_Law_areZones_327 O f d f v0 v1 v2 v3 v4 v5 v9 v10 0 M)
    · skip
      refine xZ.adv (me := xm138) hP_138 2 (pc' := 214) (lv' := [(12, .int (0 : Int32)), (0, .ref v0), (1, .ref v1), (2, .ref v2), (3, .int (yw v3)), (4, .int (yw v4)), (5, .ref v5), (6, .ref v6), (7, .ref v7), (8, .ref v8), (9, .ref v9), (10, .int (yw v10)), (11, .int (yw v11))]) (st' := []) rfl ?_
      refine xZ.eqs (lv2 := [(12, .int (yw 0)), (0, .ref v0), (1, .ref v1), (2, .ref v2), (3, .int (yw v3)), (4, .int (yw v4)), (5, .ref v5), (6, .ref v6), (7, .ref v7), (8, .ref v8), (9, .ref v9), (10, .int (yw v10)), (11, .int (yw v11))]) (st2 := []) (by simp only [yl_lit, yL_lit, yw_add, yw_sub, yw_mul, yw_neg, yl_add, yl_sub, yl_mul, cj_and, cj_or, cj_xor, cj_shl, cj_shr, cj_ushr, cj_div, cj_i2c, cj_i2b, cj_dc, ck_and, ck_or, ck_xor, ck_shl, ck_shr, ck_ushr, ck_i2l, ck_l2i, ck_cmp]) rfl ?_
      exact xZ.sub (xsc (.tail _ (.head _)) (xsc (.tail _ (.tail _ (.head _))) (xsc (.tail _ (.tail _ (.tail _ (.head _)))) (xsc (.tail _ (.tail _ (.tail _ (.tail _ (.head _))))) (xsc (.tail _ (.tail _ (.tail _ (.tail _ (.tail _ (.head _)))))) (xsc (.tail _ (.tail _ (.tail _ (.tail _ (.tail _ (.tail _ (.head _))))))) (xsc (.tail _ (.tail _ (.tail _ (.tail _ (.tail _ (.tail _ (.tail _ (.head _)))))))) (xsc (.tail _ (.tail _ (.tail _ (.tail _ (.tail _ (.tail _ (.tail _ (.tail _ (.head _))))))))) (xsc (.tail _ (.tail _ (.tail _ (.tail _ (.tail _ (.tail _ (.tail _ (.tail _ (.tail _ (.head _)))))))))) (xsc (.tail _ (.tail _ (.tail _ (.tail _ (.tail _ (.tail _ (.tail _ (.tail _ (.tail _ (.tail _ (.head _))))))))))) (xsc (.tail _ (.tail _ (.tail _ (.tail _ (.tail _ (.tail _ (.tail _ (.tail _ (.tail _ (.tail _ (.tail _ (.head _)))))))))))) (xsc (.tail _ (.tail _ (.tail _ (.tail _ (.tail _ (.tail _ (.tail _ (.tail _ (.tail _ (.tail _ (.tail _ (.tail _ (.head _))))))))))))) (xsc (.head _) xsn))))))))))))) (show ([12, 0, 1, 2, 3, 4, 5, 6, 7, 8, 9, 10, 11] : List Nat).Nodup from by decide) (k_f_Law_areZones_214 O f d (f_Law_areZones_205 O f n) ih f v0 v1 v2 v3 v4 v5 v6 v7 v8 v9 v10 v11 0 M)
def f_Law_areZones_44 (O : Nat → Option va_E) (f : Nat) (v0 : Nat) (v1 : Nat) (v2 : Nat) (v3 : Int) (s0 : Int) (M : xM) : Option (Int × xM) :=
  xcl (nAJ M 0 2) fun x1 M1 =>
  (isO O M1 v1 15).bind fun _ =>
  xcl (f_LDraw_n O f v1 12 M1) fun x2 M2 =>
  (wJ M2 x1 0 (1 + x2)).bind fun M3 =>
  (wJ M3 x1 1 0).bind fun M4 =>
  (aJ O M4 x1 0).bind fun x3 =>
  (isO O M4 v1 15).bind fun _ =>
  xcl (f_LDraw_n O f v1 11 M4) fun x4 M5 =>
  (wJ M5 x1 1 (1 + ((x3 + x4) - (jdiv (x3 + x4) 12) * 12))).bind fun M6 =>
  xcl (nAJ M6 0 2) fun x5 M7 =>
  (isO O M7 v1 15).bind fun _ =>
  xcl (f_LDraw_n O f v1 5 M7) fun x6 M8 =>
  (wJ M8 x5 0 (1 + x6)).bind fun M9 =>
  (isO O M9 v1 15).bind fun _ =>
  xcl (f_LDraw_n O f v1 5 M9) fun x7 M10 =>
  (wJ M10 x5 1 (1 + x7)).bind fun M11 =>
  xcl (nAJ M11 0 2) fun x8 M12 =>
  (isO O M12 v1 15).bind fun _ =>
  xcl (f_LDraw_n O f v1 7 M12) fun x9 M13 =>
  (wJ M13 x8 0 x9).bind fun M14 =>
  (isO O M14 v1 15).bind fun _ =>
  xcl (f_LDraw_n O f v1 7 M14) fun x10 M15 =>
  (wJ M15 x8 1 x10).bind fun M16 =>
  xcl (nAJ M16 0 2) fun x11 M17 =>
  (isO O M17 v1 15).bind fun _ =>
  xcl (f_LDraw_n O f v1 1440 M17) fun x12 M18 =>
  (wJ M18 x11 0 x12).bind fun M19 =>
  (isO O M19 v1 15).bind fun _ =>
  xcl (f_LDraw_n O f v1 1440 M19) fun x13 M20 =>
  (wJ M20 x11 1 x13).bind fun M21 =>
  (isO O M21 v0 12).bind fun _ =>
  xcl (f_Calendarhall_setZone O f v0 1 v3 s0 M21) fun x14 M22 =>
  xcl (f_Law_sets O f v0 x1 x5 x8 x11 M22) fun x15 M23 =>
  if yw x15 = yw 0 then (
    some (1, M23)
  ) else
  xcl (nAJ M23 0 2) fun x16 M24 =>
  (isO O M24 v1 15).bind fun _ =>
  xcl (f_LDraw_n O f v1 10 M24) fun x17 M25 =>
  f_Law_areZones_205 O f f v0 v1 v2 v3 s0 x1 x5 x8 x11 x16 (2001 + x17) 0 M25
set_option maxRecDepth 20000 in
theorem k_f_Law_areZones_44 (O : Nat → Option va_E) (f d : Nat) (v0 : Nat) (v1 : Nat) (v2 : Nat) (v3 : Int) (s0 : Int) (M : xM) : xZ oJ O (d + 7) 138 44 [(0, .ref v0), (1, .ref v1), (2, .ref v2), (3, .int (yw v3))] [.int (yw s0)] M (f_Law_areZones_44 O f v0 v1 v2 v3 s0 M) := by
  unfold f_Law_areZones_44
  refine xZ.adv (me := xm138) hP_138 2 (pc' := 47) (lv' := [(4, .int (yw s0)), (0, .ref v0), (1, .ref v1), (2, .ref v2), (3, .int (yw v3))]) (st' := [.int (2 : Int32)]) rfl ?_
  refine xZ.eqs (lv2 := [(4, .int (yw s0)), (0, .ref v0), (1, .ref v1), (2, .ref v2), (3, .int (yw v3))]) (st2 := [.int (yw 2)]) rfl (by simp only [yl_lit, yL_lit, yw_add, yw_sub, yw_mul, yw_neg, yl_add, yl_sub, yl_mul, cj_and, cj_or, cj_xor, cj_shl, cj_shr, cj_ushr, cj_div, cj_i2c, cj_i2b, cj_dc, ck_and, ck_or, ck_xor, ck_shl, ck_shr, ck_ushr, ck_i2l, ck_l2i, ck_cmp]) ?_
  refine xZ.k_nAJ (me := xm138) hP_138 rfl rfl (by decide) (fun x1 M1 => ?_)
  refine xZ.adv (me := xm138) hP_138 5 (pc' := 55) (lv' := [(4, .int (yw s0)), (0, .ref v0), (1, .ref v1), (2, .ref v2), (3, .int (yw v3))]) (st' := [.int (12 : Int32), .ref v1, .int (1 : Int32), .int (0 : Int32), .ref x1, .ref x1]) rfl ?_
  refine xZ.eqs (lv2 := [(4, .int (yw s0)), (0, .ref v0), (1, .ref v1), (2, .ref v2), (3, .int (yw v3))]) (st2 := [.int (yw 12), .ref v1, .int (yw 1), .int (yw 0), .ref x1, .ref x1]) rfl (by simp only [yl_lit, yL_lit, yw_add, yw_sub, yw_mul, yw_neg, yl_add, yl_sub, yl_mul, cj_and, cj_or, cj_xor, cj_shl, cj_shr, cj_ushr, cj_div, cj_i2c, cj_i2b, cj_dc, ck_and, ck_or, ck_xor, ck_shl, ck_shr, ck_ushr, ck_i2l, ck_l2i, ck_cmp]) ?_
  refine xZ.callv (κ := oJ) (av := [.int (yw 12)]) (rest := [.int (yw 1), .int (yw 0), .ref x1, .ref x1]) (st' := fun x2 => [.int (yw x2), .int (yw 1), .int (yw 0), .ref x1, .ref x1]) (k0 := v1) (me := xm138) hP_138 rfl (Or.inl rfl) ⟨rfl, by decide⟩ rfl rfl (Nat.le_of_ble_eq_true rfl) (by decide) hP_12 (Nat.le_of_ble_eq_true rfl) (fun _ => rfl) (k_f_LDraw_n O f (d + 6) v1 12 M1) (fun x2 M2 => ?_)
  refine xZ.adv (me := xm138) hP_138 1 (pc' := 59) (lv' := [(4, .int (yw s0)), (0, .ref v0), (1, .ref v1), (2, .ref v2), (3, .int (yw v3))]) (st' := [.int ((yw 1) + (yw x2)), .int (yw 0), .ref x1, .ref x1]) rfl ?_
  refine xZ.eqs (lv2 := [(4, .int (yw s0)), (0, .ref v0), (1, .ref v1), (2, .ref v2), (3, .int (yw v3))]) (st2 := [.int (yw (1 + x2)), .int (yw 0), .ref x1, .ref x1]) rfl (by simp only [yl_lit, yL_lit, yw_add, yw_sub, yw_mul, yw_neg, yl_add, yl_sub, yl_mul, cj_and, cj_or, cj_xor, cj_shl, cj_shr, cj_ushr, cj_div, cj_i2c, cj_i2b, cj_dc, ck_and, ck_or, ck_xor, ck_shl, ck_shr, ck_ushr, ck_i2l, ck_l2i, ck_cmp]) ?_
  refine xZ.k_wJ (me := xm138) hP_138 rfl (fun M3 => ?_)
  refine xZ.adv (me := xm138) hP_138 3 (pc' := 63) (lv' := [(4, .int (yw s0)), (0, .ref v0), (1, .ref v1), (2, .ref v2), (3, .int (yw v3))]) (st' := [.int (0 : Int32), .int (1 : Int32), .ref x1, .ref x1]) rfl ?_
  refine xZ.eqs (lv2 := [(4, .int (yw s0)), (0, .ref v0), (1, .ref v1), (2, .ref v2), (3, .int (yw v3))]) (st2 := [.int (yw 0), .int (yw 1), .ref x1, .ref x1]) rfl (by simp only [yl_lit, yL_lit, yw_add, yw_sub, yw_mul, yw_neg, yl_add, yl_sub, yl_mul, cj_and, cj_or, cj_xor, cj_shl, cj_shr, cj_ushr, cj_div, cj_i2c, cj_i2b, cj_dc, ck_and, ck_or, ck_xor, ck_shl, ck_shr, ck_ushr, ck_i2l, ck_l2i, ck_cmp]) ?_
  refine xZ.k_wJ (me := xm138) hP_138 rfl (fun M4 => ?_)
  refine xZ.adv (me := xm138) hP_138 6 (pc' := 73) (lv' := [(5, .ref x1), (4, .int (yw s0)), (0, .ref v0), (1, .ref v1), (2, .ref v2), (3, .int (yw v3))]) (st' := [.int (0 : Int32), .ref x1, .int (1 : Int32), .int (1 : Int32), .ref x1]) rfl ?_
  refine xZ.eqs (lv2 := [(5, .ref x1), (4, .int (yw s0)), (0, .ref v0), (1, .ref v1), (2, .ref v2), (3, .int (yw v3))]) (st2 := [.int (yw 0), .ref x1, .int (yw 1), .int (yw 1), .ref x1]) rfl (by simp only [yl_lit, yL_lit, yw_add, yw_sub, yw_mul, yw_neg, yl_add, yl_sub, yl_mul, cj_and, cj_or, cj_xor, cj_shl, cj_shr, cj_ushr, cj_div, cj_i2c, cj_i2b, cj_dc, ck_and, ck_or, ck_xor, ck_shl, ck_shr, ck_ushr, ck_i2l, ck_l2i, ck_cmp]) ?_
  refine xZ.k_aJ (me := xm138) hP_138 rfl (fun x3 => ?_)
  refine xZ.adv (me := xm138) hP_138 2 (pc' := 77) (lv' := [(5, .ref x1), (4, .int (yw s0)), (0, .ref v0), (1, .ref v1), (2, .ref v2), (3, .int (yw v3))]) (st' := [.int (11 : Int32), .ref v1, .int (yw x3), .int (yw 1), .int (yw 1), .ref x1]) rfl ?_
  refine xZ.eqs (lv2 := [(5, .ref x1), (4, .int (yw s0)), (0, .ref v0), (1, .ref v1), (2, .ref v2), (3, .int (yw v3))]) (st2 := [.int (yw 11), .ref v1, .int (yw x3), .int (yw 1), .int (yw 1), .ref x1]) rfl (by simp only [yl_lit, yL_lit, yw_add, yw_sub, yw_mul, yw_neg, yl_add, yl_sub, yl_mul, cj_and, cj_or, cj_xor, cj_shl, cj_shr, cj_ushr, cj_div, cj_i2c, cj_i2b, cj_dc, ck_and, ck_or, ck_xor, ck_shl, ck_shr, ck_ushr, ck_i2l, ck_l2i, ck_cmp]) ?_
  refine xZ.callv (κ := oJ) (av := [.int (yw 11)]) (rest := [.int (yw x3), .int (yw 1), .int (yw 1), .ref x1]) (st' := fun x4 => [.int (yw x4), .int (yw x3), .int (yw 1), .int (yw 1), .ref x1]) (k0 := v1) (me := xm138) hP_138 rfl (Or.inl rfl) ⟨rfl, by decide⟩ rfl rfl (Nat.le_of_ble_eq_true rfl) (by decide) hP_12 (Nat.le_of_ble_eq_true rfl) (fun _ => rfl) (k_f_LDraw_n O f (d + 6) v1 11 M4) (fun x4 M5 => ?_)
  refine xZ.adv (me := xm138) hP_138 4 (pc' := 85) (lv' := [(5, .ref x1), (4, .int (yw s0)), (0, .ref v0), (1, .ref v1), (2, .ref v2), (3, .int (yw v3))]) (st' := [.int ((yw 1) + (((yw x3) + (yw x4)) - ((yw x3) + (yw x4)) / (12 : Int32) * (12 : Int32))), .int (yw 1), .ref x1]) rfl ?_
  refine xZ.eqs (lv2 := [(5, .ref x1), (4, .int (yw s0)), (0, .ref v0), (1, .ref v1), (2, .ref v2), (3, .int (yw v3))]) (st2 := [.int (yw (1 + ((x3 + x4) - (jdiv (x3 + x4) 12) * 12))), .int (yw 1), .ref x1]) rfl (by simp only [yl_lit, yL_lit, yw_add, yw_sub, yw_mul, yw_neg, yl_add, yl_sub, yl_mul, cj_and, cj_or, cj_xor, cj_shl, cj_shr, cj_ushr, cj_div, cj_i2c, cj_i2b, cj_dc, ck_and, ck_or, ck_xor, ck_shl, ck_shr, ck_ushr, ck_i2l, ck_l2i, ck_cmp]) ?_
  refine xZ.k_wJ (me := xm138) hP_138 rfl (fun M6 => ?_)
  refine xZ.adv (me := xm138) hP_138 1 (pc' := 87) (lv' := [(5, .ref x1), (4, .int (yw s0)), (0, .ref v0), (1, .ref v1), (2, .ref v2), (3, .int (yw v3))]) (st' := [.int (2 : Int32)]) rfl ?_
  refine xZ.eqs (lv2 := [(5, .ref x1), (4, .int (yw s0)), (0, .ref v0), (1, .ref v1), (2, .ref v2), (3, .int (yw v3))]) (st2 := [.int (yw 2)]) rfl (by simp only [yl_lit, yL_lit, yw_add, yw_sub, yw_mul, yw_neg, yl_add, yl_sub, yl_mul, cj_and, cj_or, cj_xor, cj_shl, cj_shr, cj_ushr, cj_div, cj_i2c, cj_i2b, cj_dc, ck_and, ck_or, ck_xor, ck_shl, ck_shr, ck_ushr, ck_i2l, ck_l2i, ck_cmp]) ?_
  refine xZ.k_nAJ (me := xm138) hP_138 rfl rfl (by decide) (fun x5 M7 => ?_)
  refine xZ.adv (me := xm138) hP_138 5 (pc' := 94) (lv' := [(5, .ref x1), (4, .int (yw s0)), (0, .ref v0), (1, .ref v1), (2, .ref v2), (3, .int (yw v3))]) (st' := [.int (5 : Int32), .ref v1, .int (1 : Int32), .int (0 : Int32), .ref x5, .ref x5]) rfl ?_
  refine xZ.eqs (lv2 := [(5, .ref x1), (4, .int (yw s0)), (0, .ref v0), (1, .ref v1), (2, .ref v2), (3, .int (yw v3))]) (st2 := [.int (yw 5), .ref v1, .int (yw 1), .int (yw 0), .ref x5, .ref x5]) rfl (by simp only [yl_lit, yL_lit, yw_add, yw_sub, yw_mul, yw_neg, yl_add, yl_sub, yl_mul, cj_and, cj_or, cj_xor, cj_shl, cj_shr, cj_ushr, cj_div, cj_i2c, cj_i2b, cj_dc, ck_and, ck_or, ck_xor, ck_shl, ck_shr, ck_ushr, ck_i2l, ck_l2i, ck_cmp]) ?_
  refine xZ.callv (κ := oJ) (av := [.int (yw 5)]) (rest := [.int (yw 1), .int (yw 0), .ref x5, .ref x5]) (st' := fun x6 => [.int (yw x6), .int (yw 1), .int (yw 0), .ref x5, .ref x5]) (k0 := v1) (me := xm138) hP_138 rfl (Or.inl rfl) ⟨rfl, by decide⟩ rfl rfl (Nat.le_of_ble_eq_true rfl) (by decide) hP_12 (Nat.le_of_ble_eq_true rfl) (fun _ => rfl) (k_f_LDraw_n O f (d + 6) v1 5 M7) (fun x6 M8 => ?_)
  refine xZ.adv (me := xm138) hP_138 1 (pc' := 98) (lv' := [(5, .ref x1), (4, .int (yw s0)), (0, .ref v0), (1, .ref v1), (2, .ref v2), (3, .int (yw v3))]) (st' := [.int ((yw 1) + (yw x6)), .int (yw 0), .ref x5, .ref x5]) rfl ?_
  refine xZ.eqs (lv2 := [(5, .ref x1), (4, .int (yw s0)), (0, .ref v0), (1, .ref v1), (2, .ref v2), (3, .int (yw v3))]) (st2 := [.int (yw (1 + x6)), .int (yw 0), .ref x5, .ref x5]) rfl (by simp only [yl_lit, yL_lit, yw_add, yw_sub, yw_mul, yw_neg, yl_add, yl_sub, yl_mul, cj_and, cj_or, cj_xor, cj_shl, cj_shr, cj_ushr, cj_div, cj_i2c, cj_i2b, cj_dc, ck_and, ck_or, ck_xor, ck_shl, ck_shr, ck_ushr, ck_i2l, ck_l2i, ck_cmp]) ?_
  refine xZ.k_wJ (me := xm138) hP_138 rfl (fun M9 => ?_)
  refine xZ.adv (me := xm138) hP_138 5 (pc' := 104) (lv' := [(5, .ref x1), (4, .int (yw s0)), (0, .ref v0), (1, .ref v1), (2, .ref v2), (3, .int (yw v3))]) (st' := [.int (5 : Int32), .ref v1, .int (1 : Int32), .int (1 : Int32), .ref x5, .ref x5]) rfl ?_
  refine xZ.eqs (lv2 := [(5, .ref x1), (4, .int (yw s0)), (0, .ref v0), (1, .ref v1), (2, .ref v2), (3, .int (yw v3))]) (st2 := [.int (yw 5), .ref v1, .int (yw 1), .int (yw 1), .ref x5, .ref x5]) rfl (by simp only [yl_lit, yL_lit, yw_add, yw_sub, yw_mul, yw_neg, yl_add, yl_sub, yl_mul, cj_and, cj_or, cj_xor, cj_shl, cj_shr, cj_ushr, cj_div, cj_i2c, cj_i2b, cj_dc, ck_and, ck_or, ck_xor, ck_shl, ck_shr, ck_ushr, ck_i2l, ck_l2i, ck_cmp]) ?_
  refine xZ.callv (κ := oJ) (av := [.int (yw 5)]) (rest := [.int (yw 1), .int (yw 1), .ref x5, .ref x5]) (st' := fun x7 => [.int (yw x7), .int (yw 1), .int (yw 1), .ref x5, .ref x5]) (k0 := v1) (me := xm138) hP_138 rfl (Or.inl rfl) ⟨rfl, by decide⟩ rfl rfl (Nat.le_of_ble_eq_true rfl) (by decide) hP_12 (Nat.le_of_ble_eq_true rfl) (fun _ => rfl) (k_f_LDraw_n O f (d + 6) v1 5 M9) (fun x7 M10 => ?_)
  refine xZ.adv (me := xm138) hP_138 1 (pc' := 108) (lv' := [(5, .ref x1), (4, .int (yw s0)), (0, .ref v0), (1, .ref v1), (2, .ref v2), (3, .int (yw v3))]) (st' := [.int ((yw 1) + (yw x7)), .int (yw 1), .ref x5, .ref x5]) rfl ?_
  refine xZ.eqs (lv2 := [(5, .ref x1), (4, .int (yw s0)), (0, .ref v0), (1, .ref v1), (2, .ref v2), (3, .int (yw v3))]) (st2 := [.int (yw (1 + x7)), .int (yw 1), .ref x5, .ref x5]) rfl (by simp only [yl_lit, yL_lit, yw_add, yw_sub, yw_mul, yw_neg, yl_add, yl_sub, yl_mul, cj_and, cj_or, cj_xor, cj_shl, cj_shr, cj_ushr, cj_div, cj_i2c, cj_i2b, cj_dc, ck_and, ck_or, ck_xor, ck_shl, ck_shr, ck_ushr, ck_i2l, ck_l2i, ck_cmp]) ?_
  refine xZ.k_wJ (me := xm138) hP_138 rfl (fun M11 => ?_)
  refine xZ.adv (me := xm138) hP_138 2 (pc' := 112) (lv' := [(6, .ref x5), (5, .ref x1), (4, .int (yw s0)), (0, .ref v0), (1, .ref v1), (2, .ref v2), (3, .int (yw v3))]) (st' := [.int (2 : Int32)]) rfl ?_
  refine xZ.eqs (lv2 := [(6, .ref x5), (5, .ref x1), (4, .int (yw s0)), (0, .ref v0), (1, .ref v1), (2, .ref v2), (3, .int (yw v3))]) (st2 := [.int (yw 2)]) rfl (by simp only [yl_lit, yL_lit, yw_add, yw_sub, yw_mul, yw_neg, yl_add, yl_sub, yl_mul, cj_and, cj_or, cj_xor, cj_shl, cj_shr, cj_ushr, cj_div, cj_i2c, cj_i2b, cj_dc, ck_and, ck_or, ck_xor, ck_shl, ck_shr, ck_ushr, ck_i2l, ck_l2i, ck_cmp]) ?_
  refine xZ.k_nAJ (me := xm138) hP_138 rfl rfl (by decide) (fun x8 M12 => ?_)
  refine xZ.adv (me := xm138) hP_138 4 (pc' := 119) (lv' := [(6, .ref x5), (5, .ref x1), (4, .int (yw s0)), (0, .ref v0), (1, .ref v1), (2, .ref v2), (3, .int (yw v3))]) (st' := [.int (7 : Int32), .ref v1, .int (0 : Int32), .ref x8, .ref x8]) rfl ?_
  refine xZ.eqs (lv2 := [(6, .ref x5), (5, .ref x1), (4, .int (yw s0)), (0, .ref v0), (1, .ref v1), (2, .ref v2), (3, .int (yw v3))]) (st2 := [.int (yw 7), .ref v1, .int (yw 0), .ref x8, .ref x8]) rfl (by simp only [yl_lit, yL_lit, yw_add, yw_sub, yw_mul, yw_neg, yl_add, yl_sub, yl_mul, cj_and, cj_or, cj_xor, cj_shl, cj_shr, cj_ushr, cj_div, cj_i2c, cj_i2b, cj_dc, ck_and, ck_or, ck_xor, ck_shl, ck_shr, ck_ushr, ck_i2l, ck_l2i, ck_cmp]) ?_
  refine xZ.callv (κ := oJ) (av := [.int (yw 7)]) (rest := [.int (yw 0), .ref x8, .ref x8]) (st' := fun x9 => [.int (yw x9), .int (yw 0), .ref x8, .ref x8]) (k0 := v1) (me := xm138) hP_138 rfl (Or.inl rfl) ⟨rfl, by decide⟩ rfl rfl (Nat.le_of_ble_eq_true rfl) (by decide) hP_12 (Nat.le_of_ble_eq_true rfl) (fun _ => rfl) (k_f_LDraw_n O f (d + 6) v1 7 M12) (fun x9 M13 => ?_)
  refine xZ.k_wJ (me := xm138) hP_138 rfl (fun M14 => ?_)
  refine xZ.adv (me := xm138) hP_138 4 (pc' := 128) (lv' := [(6, .ref x5), (5, .ref x1), (4, .int (yw s0)), (0, .ref v0), (1, .ref v1), (2, .ref v2), (3, .int (yw v3))]) (st' := [.int (7 : Int32), .ref v1, .int (1 : Int32), .ref x8, .ref x8]) rfl ?_
  refine xZ.eqs (lv2 := [(6, .ref x5), (5, .ref x1), (4, .int (yw s0)), (0, .ref v0), (1, .ref v1), (2, .ref v2), (3, .int (yw v3))]) (st2 := [.int (yw 7), .ref v1, .int (yw 1), .ref x8, .ref x8]) rfl (by simp only [yl_lit, yL_lit, yw_add, yw_sub, yw_mul, yw_neg, yl_add, yl_sub, yl_mul, cj_and, cj_or, cj_xor, cj_shl, cj_shr, cj_ushr, cj_div, cj_i2c, cj_i2b, cj_dc, ck_and, ck_or, ck_xor, ck_shl, ck_shr, ck_ushr, ck_i2l, ck_l2i, ck_cmp]) ?_
  refine xZ.callv (κ := oJ) (av := [.int (yw 7)]) (rest := [.int (yw 1), .ref x8, .ref x8]) (st' := fun x10 => [.int (yw x10), .int (yw 1), .ref x8, .ref x8]) (k0 := v1) (me := xm138) hP_138 rfl (Or.inl rfl) ⟨rfl, by decide⟩ rfl rfl (Nat.le_of_ble_eq_true rfl) (by decide) hP_12 (Nat.le_of_ble_eq_true rfl) (fun _ => rfl) (k_f_LDraw_n O f (d + 6) v1 7 M14) (fun x10 M15 => ?_)
  refine xZ.k_wJ (me := xm138) hP_138 rfl (fun M16 => ?_)
  refine xZ.adv (me := xm138) hP_138 2 (pc' := 135) (lv' := [(7, .ref x8), (6, .ref x5), (5, .ref x1), (4, .int (yw s0)), (0, .ref v0), (1, .ref v1), (2, .ref v2), (3, .int (yw v3))]) (st' := [.int (2 : Int32)]) rfl ?_
  refine xZ.eqs (lv2 := [(7, .ref x8), (6, .ref x5), (5, .ref x1), (4, .int (yw s0)), (0, .ref v0), (1, .ref v1), (2, .ref v2), (3, .int (yw v3))]) (st2 := [.int (yw 2)]) rfl (by simp only [yl_lit, yL_lit, yw_add, yw_sub, yw_mul, yw_neg, yl_add, yl_sub, yl_mul, cj_and, cj_or, cj_xor, cj_shl, cj_shr, cj_ushr, cj_div, cj_i2c, cj_i2b, cj_dc, ck_and, ck_or, ck_xor, ck_shl, ck_shr, ck_ushr, ck_i2l, ck_l2i, ck_cmp]) ?_
  refine xZ.k_nAJ (me := xm138) hP_138 rfl rfl (by decide) (fun x11 M17 => ?_)
  refine xZ.adv (me := xm138) hP_138 4 (pc' := 143) (lv' := [(7, .ref x8), (6, .ref x5), (5, .ref x1), (4, .int (yw s0)), (0, .ref v0), (1, .ref v1), (2, .ref v2), (3, .int (yw v3))]) (st' := [.int (1440 : Int32), .ref v1, .int (0 : Int32), .ref x11, .ref x11]) rfl ?_
  refine xZ.eqs (lv2 := [(7, .ref x8), (6, .ref x5), (5, .ref x1), (4, .int (yw s0)), (0, .ref v0), (1, .ref v1), (2, .ref v2), (3, .int (yw v3))]) (st2 := [.int (yw 1440), .ref v1, .int (yw 0), .ref x11, .ref x11]) rfl (by simp only [yl_lit, yL_lit, yw_add, yw_sub, yw_mul, yw_neg, yl_add, yl_sub, yl_mul, cj_and, cj_or, cj_xor, cj_shl, cj_shr, cj_ushr, cj_div, cj_i2c, cj_i2b, cj_dc, ck_and, ck_or, ck_xor, ck_shl, ck_shr, ck_ushr, ck_i2l, ck_l2i, ck_cmp]) ?_
  refine xZ.callv (κ := oJ) (av := [.int (yw 1440)]) (rest := [.int (yw 0), .ref x11, .ref x11]) (st' := fun x12 => [.int (yw x12), .int (yw 0), .ref x11, .ref x11]) (k0 := v1) (me := xm138) hP_138 rfl (Or.inl rfl) ⟨rfl, by decide⟩ rfl rfl (Nat.le_of_ble_eq_true rfl) (by decide) hP_12 (Nat.le_of_ble_eq_true rfl) (fun _ => rfl) (k_f_LDraw_n O f (d + 6) v1 1440 M17) (fun x12 M18 => ?_)
  refine xZ.k_wJ (me := xm138) hP_138 rfl (fun M19 => ?_)
  refine xZ.adv (me := xm138) hP_138 4 (pc' := 153) (lv' := [(7, .ref x8), (6, .ref x5), (5, .ref x1), (4, .int (yw s0)), (0, .ref v0), (1, .ref v1), (2, .ref v2), (3, .int (yw v3))]) (st' := [.int (1440 : Int32), .ref v1, .int (1 : Int32), .ref x11, .ref x11]) rfl ?_
  refine xZ.eqs (lv2 := [(7, .ref x8), (6, .ref x5), (5, .ref x1), (4, .int (yw s0)), (0, .ref v0), (1, .ref v1), (2, .ref v2), (3, .int (yw v3))]) (st2 := [.int (yw 1440), .ref v1, .int (yw 1), .ref x11, .ref x11]) rfl (by simp only [yl_lit, yL_lit, yw_add, yw_sub, yw_mul, yw_neg, yl_add, yl_sub, yl_mul, cj_and, cj_or, cj_xor, cj_shl, cj_shr, cj_ushr, cj_div, cj_i2c, cj_i2b, cj_dc, ck_and, ck_or, ck_xor, ck_shl, ck_shr, ck_ushr, ck_i2l, ck_l2i, ck_cmp]) ?_
  refine xZ.callv (κ := oJ) (av := [.int (yw 1440)]) (rest := [.int (yw 1), .ref x11, .ref x11]) (st' := fun x13 => [.int (yw x13), .int (yw 1), .ref x11, .ref x11]) (k0 := v1) (me := xm138) hP_138 rfl (Or.inl rfl) ⟨rfl, by decide⟩ rfl rfl (Nat.le_of_ble_eq_true rfl) (by decide) hP_12 (Nat.le_of_ble_eq_true rfl) (fun _ => rfl) (k_f_LDraw_n O f (d + 6) v1 1440 M19) (fun x13 M20 => ?_)
  refine xZ.k_wJ (me := xm138) hP_138 rfl (fun M21 => ?_)
  refine xZ.adv (me := xm138) hP_138 5 (pc' := 164) (lv' := [(8, .ref x11), (7, .ref x8), (6, .ref x5), (5, .ref x1), (4, .int (yw s0)), (0, .ref v0), (1, .ref v1), (2, .ref v2), (3, .int (yw v3))]) (st' := [.int (yw s0), .int (yw v3), .int (1 : Int32), .ref v0]) rfl ?_
  refine xZ.eqs (lv2 := [(8, .ref x11), (7, .ref x8), (6, .ref x5), (5, .ref x1), (4, .int (yw s0)), (0, .ref v0), (1, .ref v1), (2, .ref v2), (3, .int (yw v3))]) (st2 := [.int (yw s0), .int (yw v3), .int (yw 1), .ref v0]) rfl (by simp only [yl_lit, yL_lit, yw_add, yw_sub, yw_mul, yw_neg, yl_add, yl_sub, yl_mul, cj_and, cj_or, cj_xor, cj_shl, cj_shr, cj_ushr, cj_div, cj_i2c, cj_i2b, cj_dc, ck_and, ck_or, ck_xor, ck_shl, ck_shr, ck_ushr, ck_i2l, ck_l2i, ck_cmp]) ?_
  refine xZ.callv (κ := oJ) (av := [.int (yw 1), .int (yw v3), .int (yw s0)]) (rest := []) (st' := fun x14 => [.int (yw x14)]) (k0 := v0) (me := xm138) hP_138 rfl (Or.inl rfl) ⟨rfl, by decide⟩ rfl rfl (Nat.le_of_ble_eq_true rfl) (by decide) hP_19 (Nat.le_of_ble_eq_true rfl) (fun _ => rfl) (k_f_Calendarhall_setZone O f (d + 1) v0 1 v3 s0 M21) (fun x14 M22 => ?_)
  refine xZ.adv (me := xm138) hP_138 6 (pc' := 177) (lv' := [(8, .ref x11), (7, .ref x8), (6, .ref x5), (5, .ref x1), (4, .int (yw s0)), (0, .ref v0), (1, .ref v1), (2, .ref v2), (3, .int (yw v3))]) (st' := [.ref x11, .ref x8, .ref x5, .ref x1, .ref v0]) rfl ?_
  refine xZ.calls (κ := oJ) (av := [.ref v0, .ref x1, .ref x5, .ref x8, .ref x11]) (rest := []) (st' := fun x15 => [.int (yw x15)]) (me := xm138) hP_138 rfl rfl rfl (Nat.le_of_ble_eq_true rfl) (by decide) hP_139 (Nat.le_of_ble_eq_true rfl) (fun _ => rfl) (k_f_Law_sets O f (d + 0) v0 x1 x5 x8 x11 M22) (fun x15 M23 => ?_)
  refine xZ.jf_ne (me := xm138) hP_138 rfl (fun h1 => ?_) (fun h1 => ?_)
  · skip
    refine xZ.adv (me := xm138) hP_138 1 (pc' := 184) (lv' := [(8, .ref x11), (7, .ref x8), (6, .ref x5), (5, .ref x1), (4, .int (yw s0)), (0, .ref v0), (1, .ref v1), (2, .ref v2), (3, .int (yw v3))]) (st' := [.int (1 : Int32)]) rfl ?_
    refine xZ.eqs (lv2 := [(8, .ref x11), (7, .ref x8), (6, .ref x5), (5, .ref x1), (4, .int (yw s0)), (0, .ref v0), (1, .ref v1), (2, .ref v2), (3, .int (yw v3))]) (st2 := [.int (yw 1)]) rfl (by simp only [yl_lit, yL_lit, yw_add, yw_sub, yw_mul, yw_neg, yl_add, yl_sub, yl_mul, cj_and, cj_or, cj_xor, cj_shl, cj_shr, cj_ushr, cj_div, cj_i2c, cj_i2b, cj_dc, ck_and, ck_or, ck_xor, ck_shl, ck_shr, ck_ushr, ck_i2l, ck_l2i, ck_cmp]) ?_
    exact xZ.jrete (me := xm138) hP_138 rfl rfl rfl
  · skip
    refine xZ.adv (me := xm138) hP_138 1 (pc' := 186) (lv' := [(8, .ref x11), (7, .ref x8), (6, .ref x5), (5, .ref x1), (4, .int (yw s0)), (0, .ref v0), (1, .ref v1), (2, .ref v2), (3, .int (yw v3))]) (st' := [.int (2 : Int32)]) rfl ?_
    refine xZ.eqs (lv2 := [(8, .ref x11), (7, .ref x8), (6, .ref x5), (5, .ref x1), (4, .int (yw s0)), (0, .ref v0), (1, .ref v1), (2, .ref v2), (3, .int (yw v3))]) (st2 := [.int (yw 2)]) rfl (by simp only [yl_lit, yL_lit, yw_add, yw_sub, yw_mul, yw_neg, yl_add, yl_sub, yl_mul, cj_and, cj_or, cj_xor, cj_shl, cj_shr, cj_ushr, cj_div, cj_i2c, cj_i2b, cj_dc, ck_and, ck_or, ck_xor, ck_shl, ck_shr, ck_ushr, ck_i2l, ck_l2i, ck_cmp]) ?_
    refine xZ.k_nAJ (me := xm138) hP_138 rfl rfl (by decide) (fun x16 M24 => ?_)
    refine xZ.adv (me := xm138) hP_138 4 (pc' := 196) (lv' := [(9, .ref x16), (8, .ref x11), (7, .ref x8), (6, .ref x5), (5, .ref x1), (4, .int (yw s0)), (0, .ref v0), (1, .ref v1), (2, .ref v2), (3, .int (yw v3))]) (st' := [.int (10 : Int32), .ref v1, .int (2001 : Int32)]) rfl ?_
    refine xZ.eqs (lv2 := [(9, .ref x16), (8, .ref x11), (7, .ref x8), (6, .ref x5), (5, .ref x1), (4, .int (yw s0)), (0, .ref v0), (1, .ref v1), (2, .ref v2), (3, .int (yw v3))]) (st2 := [.int (yw 10), .ref v1, .int (yw 2001)]) rfl (by simp only [yl_lit, yL_lit, yw_add, yw_sub, yw_mul, yw_neg, yl_add, yl_sub, yl_mul, cj_and, cj_or, cj_xor, cj_shl, cj_shr, cj_ushr, cj_div, cj_i2c, cj_i2b, cj_dc, ck_and, ck_or, ck_xor, ck_shl, ck_shr, ck_ushr, ck_i2l, ck_l2i, ck_cmp]) ?_
    refine xZ.callv (κ := oJ) (av := [.int (yw 10)]) (rest := [.int (yw 2001)]) (st' := fun x17 => [.int (yw x17), .int (yw 2001)]) (k0 := v1) (me := xm138) hP_138 rfl (Or.inl rfl) ⟨rfl, by decide⟩ rfl rfl (Nat.le_of_ble_eq_true rfl) (by decide) hP_12 (Nat.le_of_ble_eq_true rfl) (fun _ => rfl) (k_f_LDraw_n O f (d + 6) v1 10 M24) (fun x17 M25 => ?_)
    refine xZ.adv (me := xm138) hP_138 4 (pc' := 205) (lv' := [(11, .int (0 : Int32)), (10, .int ((yw 2001) + (yw x17))), (9, .ref x16), (8, .ref x11), (7, .ref x8), (6, .ref x5), (5, .ref x1), (4, .int (yw s0)), (0, .ref v0), (1, .ref v1), (2, .ref v2), (3, .int (yw v3))]) (st' := []) rfl ?_
    refine xZ.eqs (lv2 := [(11, .int (yw 0)), (10, .int (yw (2001 + x17))), (9, .ref x16), (8, .ref x11), (7, .ref x8), (6, .ref x5), (5, .ref x1), (4, .int (yw s0)), (0, .ref v0), (1, .ref v1), (2, .ref v2), (3, .int (yw v3))]) (st2 := []) (by simp only [yl_lit, yL_lit, yw_add, yw_sub, yw_mul, yw_neg, yl_add, yl_sub, yl_mul, cj_and, cj_or, cj_xor, cj_shl, cj_shr, cj_ushr, cj_div, cj_i2c, cj_i2b, cj_dc, ck_and, ck_or, ck_xor, ck_shl, ck_shr, ck_ushr, ck_i2l, ck_l2i, ck_cmp]) rfl ?_
    exact xZ.sub (xsc (.tail _ (.tail _ (.tail _ (.tail _ (.tail _ (.tail _ (.tail _ (.tail _ (.head _))))))))) (xsc (.tail _ (.tail _ (.tail _ (.tail _ (.tail _ (.tail _ (.tail _ (.tail _ (.tail _ (.head _)))))))))) (xsc (.tail _ (.tail _ (.tail _ (.tail _ (.tail _ (.tail _ (.tail _ (.tail _ (.tail _ (.tail _ (.head _))))))))))) (xsc (.tail _ (.tail _ (.tail _ (.tail _ (.tail _ (.tail _ (.tail _ (.tail _ (.tail _ (.tail _ (.tail _ (.head _)))))))))))) (xsc (.tail _ (.tail _ (.tail _ (.tail _ (.tail _ (.tail _ (.tail _ (.head _)))))))) (xsc (.tail _ (.tail _ (.tail _ (.tail _ (.tail _ (.tail _ (.head _))))))) (xsc (.tail _ (.tail _ (.tail _ (.tail _ (.tail _ (.head _)))))) (xsc (.tail _ (.tail _ (.tail _ (.tail _ (.head _))))) (xsc (.tail _ (.tail _ (.tail _ (.head _)))) (xsc (.tail _ (.tail _ (.head _))) (xsc (.tail _ (.head _)) (xsc (.head _) xsn)))))))))))) (show ([11, 10, 9, 8, 7, 6, 5, 4, 0, 1, 2, 3] : List Nat).Nodup from by decide) (k_f_Law_areZones_205 O f d f v0 v1 v2 v3 s0 x1 x5 x8 x11 x16 (2001 + x17) 0 M25)
def f_Law_areZones (O : Nat → Option va_E) (f : Nat) (v0 : Nat) (v1 : Nat) (M : xM) : Option (Int × xM) :=
  xcl (nO M 14) fun x1 M1 =>
  xcl (f_LDays_ctor O f x1 M1) fun _ M2 =>
  (isO O M2 v1 15).bind fun _ =>
  xcl (f_LDraw_n O f v1 105 M2) fun x3 M3 =>
  (isO O M3 v1 15).bind fun _ =>
  xcl (f_LDraw_is O f v1 5 M3) fun x4 M4 =>
  if yw x4 = yw 0 then (
    (isO O M4 v1 15).bind fun _ =>
    xcl (f_LDraw_n O f v1 8 M4) fun x5 M5 =>
    f_Law_areZones_44 O f v0 v1 x1 (15 * (x3 - 48)) (15 * (1 + x5)) M5
  ) else
  f_Law_areZones_44 O f v0 v1 x1 (15 * (x3 - 48)) 0 M4
set_option maxRecDepth 20000 in
theorem k_f_Law_areZones (O : Nat → Option va_E) (f d : Nat) (v0 : Nat) (v1 : Nat) (M : xM) : xZ oJ O (d + 7) 138 0 [(0, .ref v0), (1, .ref v1)] [] M (f_Law_areZones O f v0 v1 M) := by
  unfold f_Law_areZones
  refine xZ.k_nO (me := xm138) hP_138 rfl rfl (fun x1 M1 => ?_)
  refine xZ.adv (me := xm138) hP_138 1 (pc' := 4) (lv' := [(0, .ref v0), (1, .ref v1)]) (st' := [.ref x1, .ref x1]) rfl ?_
  refine xZ.calli (κ := oU) (av := []) (rest := [.ref x1]) (st' := fun _ => [.ref x1]) (k0 := x1) (me := xm138) hP_138 rfl (Or.inl rfl) rfl rfl (Nat.le_of_ble_eq_true rfl) (by decide) hP_14 (Nat.le_of_ble_eq_true rfl) (fun _ => rfl) (k_f_LDays_ctor O f (d + 5) x1 M1) (fun _ M2 => ?_)
  refine xZ.adv (me := xm138) hP_138 4 (pc' := 13) (lv' := [(2, .ref x1), (0, .ref v0), (1, .ref v1)]) (st' := [.int (105 : Int32), .ref v1, .int (15 : Int32)]) rfl ?_
  refine xZ.eqs (lv2 := [(2, .ref x1), (0, .ref v0), (1, .ref v1)]) (st2 := [.int (yw 105), .ref v1, .int (yw 15)]) rfl (by simp only [yl_lit, yL_lit, yw_add, yw_sub, yw_mul, yw_neg, yl_add, yl_sub, yl_mul, cj_and, cj_or, cj_xor, cj_shl, cj_shr, cj_ushr, cj_div, cj_i2c, cj_i2b, cj_dc, ck_and, ck_or, ck_xor, ck_shl, ck_shr, ck_ushr, ck_i2l, ck_l2i, ck_cmp]) ?_
  refine xZ.callv (κ := oJ) (av := [.int (yw 105)]) (rest := [.int (yw 15)]) (st' := fun x3 => [.int (yw x3), .int (yw 15)]) (k0 := v1) (me := xm138) hP_138 rfl (Or.inl rfl) ⟨rfl, by decide⟩ rfl rfl (Nat.le_of_ble_eq_true rfl) (by decide) hP_12 (Nat.le_of_ble_eq_true rfl) (fun _ => rfl) (k_f_LDraw_n O f (d + 6) v1 105 M2) (fun x3 M3 => ?_)
  refine xZ.adv (me := xm138) hP_138 6 (pc' := 23) (lv' := [(3, .int ((yw 15) * ((yw x3) - (48 : Int32)))), (2, .ref x1), (0, .ref v0), (1, .ref v1)]) (st' := [.int (5 : Int32), .ref v1]) rfl ?_
  refine xZ.eqs (lv2 := [(3, .int (yw (15 * (x3 - 48)))), (2, .ref x1), (0, .ref v0), (1, .ref v1)]) (st2 := [.int (yw 5), .ref v1]) (by simp only [yl_lit, yL_lit, yw_add, yw_sub, yw_mul, yw_neg, yl_add, yl_sub, yl_mul, cj_and, cj_or, cj_xor, cj_shl, cj_shr, cj_ushr, cj_div, cj_i2c, cj_i2b, cj_dc, ck_and, ck_or, ck_xor, ck_shl, ck_shr, ck_ushr, ck_i2l, ck_l2i, ck_cmp]) (by simp only [yl_lit, yL_lit, yw_add, yw_sub, yw_mul, yw_neg, yl_add, yl_sub, yl_mul, cj_and, cj_or, cj_xor, cj_shl, cj_shr, cj_ushr, cj_div, cj_i2c, cj_i2b, cj_dc, ck_and, ck_or, ck_xor, ck_shl, ck_shr, ck_ushr, ck_i2l, ck_l2i, ck_cmp]) ?_
  refine xZ.callv (κ := oJ) (av := [.int (yw 5)]) (rest := []) (st' := fun x4 => [.int (yw x4)]) (k0 := v1) (me := xm138) hP_138 rfl (Or.inl rfl) ⟨rfl, by decide⟩ rfl rfl (Nat.le_of_ble_eq_true rfl) (by decide) hP_18 (Nat.le_of_ble_eq_true rfl) (fun _ => rfl) (k_f_LDraw_is O f (d + 5) v1 5 M3) (fun x4 M4 => ?_)
  refine xZ.jf_eq (me := xm138) hP_138 rfl (fun h1 => ?_) (fun h1 => ?_)
  · skip
    refine xZ.adv (me := xm138) hP_138 4 (pc' := 39) (lv' := [(3, .int (yw (15 * (x3 - 48)))), (2, .ref x1), (0, .ref v0), (1, .ref v1)]) (st' := [.int (8 : Int32), .ref v1, .int (1 : Int32), .int (15 : Int32)]) rfl ?_
    refine xZ.eqs (lv2 := [(3, .int (yw (15 * (x3 - 48)))), (2, .ref x1), (0, .ref v0), (1, .ref v1)]) (st2 := [.int (yw 8), .ref v1, .int (yw 1), .int (yw 15)]) rfl (by simp only [yl_lit, yL_lit, yw_add, yw_sub, yw_mul, yw_neg, yl_add, yl_sub, yl_mul, cj_and, cj_or, cj_xor, cj_shl, cj_shr, cj_ushr, cj_div, cj_i2c, cj_i2b, cj_dc, ck_and, ck_or, ck_xor, ck_shl, ck_shr, ck_ushr, ck_i2l, ck_l2i, ck_cmp]) ?_
    refine xZ.callv (κ := oJ) (av := [.int (yw 8)]) (rest := [.int (yw 1), .int (yw 15)]) (st' := fun x5 => [.int (yw x5), .int (yw 1), .int (yw 15)]) (k0 := v1) (me := xm138) hP_138 rfl (Or.inl rfl) ⟨rfl, by decide⟩ rfl rfl (Nat.le_of_ble_eq_true rfl) (by decide) hP_12 (Nat.le_of_ble_eq_true rfl) (fun _ => rfl) (k_f_LDraw_n O f (d + 6) v1 8 M4) (fun x5 M5 => ?_)
    refine xZ.adv (me := xm138) hP_138 2 (pc' := 44) (lv' := [(3, .int (yw (15 * (x3 - 48)))), (2, .ref x1), (0, .ref v0), (1, .ref v1)]) (st' := [.int ((yw 15) * ((yw 1) + (yw x5)))]) rfl ?_
    refine xZ.eqs (lv2 := [(3, .int (yw (15 * (x3 - 48)))), (2, .ref x1), (0, .ref v0), (1, .ref v1)]) (st2 := [.int (yw (15 * (1 + x5)))]) rfl (by simp only [yl_lit, yL_lit, yw_add, yw_sub, yw_mul, yw_neg, yl_add, yl_sub, yl_mul, cj_and, cj_or, cj_xor, cj_shl, cj_shr, cj_ushr, cj_div, cj_i2c, cj_i2b, cj_dc, ck_and, ck_or, ck_xor, ck_shl, ck_shr, ck_ushr, ck_i2l, ck_l2i, ck_cmp]) ?_
    exact xZ.sub (xsc (.tail _ (.tail _ (.head _))) (xsc (.tail _ (.tail _ (.tail _ (.head _)))) (xsc (.tail _ (.head _)) (xsc (.head _) xsn)))) (show ([3, 2, 0, 1] : List Nat).Nodup from by decide) (k_f_Law_areZones_44 O f d v0 v1 x1 (15 * (x3 - 48)) (15 * (1 + x5)) M5)
  · skip
    refine xZ.adv (me := xm138) hP_138 2 (pc' := 44) (lv' := [(3, .int (yw (15 * (x3 - 48)))), (2, .ref x1), (0, .ref v0), (1, .ref v1)]) (st' := [.int (0 : Int32)]) rfl ?_
    refine xZ.eqs (lv2 := [(3, .int (yw (15 * (x3 - 48)))), (2, .ref x1), (0, .ref v0), (1, .ref v1)]) (st2 := [.int (yw 0)]) rfl (by simp only [yl_lit, yL_lit, yw_add, yw_sub, yw_mul, yw_neg, yl_add, yl_sub, yl_mul, cj_and, cj_or, cj_xor, cj_shl, cj_shr, cj_ushr, cj_div, cj_i2c, cj_i2b, cj_dc, ck_and, ck_or, ck_xor, ck_shl, ck_shr, ck_ushr, ck_i2l, ck_l2i, ck_cmp]) ?_
    exact xZ.sub (xsc (.tail _ (.tail _ (.head _))) (xsc (.tail _ (.tail _ (.tail _ (.head _)))) (xsc (.tail _ (.head _)) (xsc (.head _) xsn)))) (show ([3, 2, 0, 1] : List Nat).Nodup from by decide) (k_f_Law_areZones_44 O f d v0 v1 x1 (15 * (x3 - 48)) 0 M4)
