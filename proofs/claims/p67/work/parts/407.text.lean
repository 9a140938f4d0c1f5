/-! ===== texts ===== -/
def f_Rule_countByMonths_76 (O : Nat → Option va_E) (f : Nat) (K46 : Nat → Int → Int → Int → Int → Int → Int → xM → Option (Int × xM)) (v0 : Nat) (v1 : Int) (v2 : Int) (v3 : Int) (v5 : Int) (v6 : Int) (v7 : Int) (M : xM) : Option (Int × xM) :=
  K46 v0 v1 v2 v3 v5 v6 (v7 + v3) M
set_option maxRecDepth 20000 in
theorem k_f_Rule_countByMonths_76 (O : Nat → Option va_E) (f d : Nat) (K46 : Nat → Int → Int → Int → Int → Int → Int → xM → Option (Int × xM)) (hK46 : ∀ (v0 : Nat) (v1 : Int) (v2 : Int) (v3 : Int) (v5 : Int) (v6 : Int) (v7 : Int) M, xZ oJ O (d + 3) 96 46 [(0, .ref v0), (1, .int (yw v1)), (2, .int (yw v2)), (3, .int (yw v3)), (5, .int (yw v5)), (6, .int (yw v6)), (7, .int (yw v7))] [] M (K46 v0 v1 v2 v3 v5 v6 v7 M)) (v0 : Nat) (v1 : Int) (v2 : Int) (v3 : Int) (v5 : Int) (v6 : Int) (v7 : Int) (M : xM) : xZ oJ O (d + 3) 96 76 [(0, .ref v0), (1, .int (yw v1)), (2, .int (yw v2)), (3, .int (yw v3)), (5, .int (yw v5)), (6, .int (yw v6)), (7, .int (yw v7))] [] M (f_Rule_countByMonths_76 O f K46 v0 v1 v2 v3 v5 v6 v7 M) := by
  unfold f_Rule_countByMonths_76
  refine xZ.adv (me := xm96) hP_96 5 (pc' := 46) (lv' := [(7, .int ((yw v7) + (yw v3))), (0, .ref v0), (1, .int (yw v1)), (2, .int (yw v2)), (3, .int (yw v3)), (5, .int (yw v5)), (6, .int (yw v6))]) (st' := []) rfl ?_
  refine xZ.eqs (lv2 := [(7, .int (yw (v7 + v3))), (0, .ref v0), (1, .int (yw v1)), (2, .int (yw v2)), (3, .int (yw v3)), (5, .int (yw v5)), (6, .int (yw v6))]) (st2 := []) (by simp only [yl_lit, yL_lit, yw_add, yw_sub, yw_mul, yw_neg, yl_add, yl_sub, yl_mul, cj_and, cj_or, cj_xor, cj_shl, cj_shr, cj_ushr, cj_div, cj_i2c, cj_i2b, cj_dc, ck_and, ck_or, ck_xor, ck_shl, ck_shr, ck_ushr, ck_i2l, ck_l2i, ck_cmp]) rfl ?_
  exact xZ.sub (xsc (.tail _ (.head _)) (xsc (.tail _ (.tail _ (.head _))) (xsc (.tail _ (.tail _ (.tail _ (.head _)))) (xsc (.tail _ (.tail _ (.tail _ (.tail _ (.head _))))) (xsc (.tail _ (.tail _ (.tail _ (.tail _ (.tail _ (.head _)))))) (xsc (.tail _ (.tail _ (.tail _ (.tail _ (.tail _ (.tail _ (.head _))))))) (xsc (.head _) xsn))))))) (show ([7, 0, 1, 2, 3, 5, 6] : List Nat).Nodup from by decide) (hK46 v0 v1 v2 v3 v5 v6 (v7 + v3) M)
def f_Rule_countByMonths_46 (O : Nat → Option va_E) (f : Nat) : Nat → Nat → Int → Int → Int → Int → Int → Int → xM → Option (Int × xM)
  | 0, _, _, _, _, _, _, _, _ => none
  | n + 1, v0, v1, v2, v3, v5, v6, v7, M =>
    if yw v5 < yw v7 then (
      some (v6, M)
    ) else
    (isO O M v0 9).bind fun _ =>
    xcl (f_Rule_dayInMonth O f v0 v7 M) fun x1 M1 =>
    if yw x1 < yw v1 then (
      f_Rule_countByMonths_76 O f (f_Rule_countByMonths_46 O f n) v0 v1 v2 v3 v5 v6 v7 M1
    ) else
    if yw v2 < yw x1 then (
      f_Rule_countByMonths_76 O f (f_Rule_countByMonths_46 O f n) v0 v1 v2 v3 v5 v6 v7 M1
    ) else
    f_Rule_countByMonths_76 O f (f_Rule_countByMonths_46 O f n) v0 v1 v2 v3 v5 (v6 + 1) v7 M1
set_option maxRecDepth 20000 in
theorem k_f_Rule_countByMonths_46 (O : Nat → Option va_E) (f d : Nat) : ∀ (n : Nat) (v0 : Nat) (v1 : Int) (v2 : Int) (v3 : Int) (v5 : Int) (v6 : Int) (v7 : Int) (M : xM), xZ oJ O (d + 3) 96 46 [(0, .ref v0), (1, .int (yw v1)), (2, .int (yw v2)), (3, .int (yw v3)), (5, .int (yw v5)), (6, .int (yw v6)), (7, .int (yw v7))] [] M (f_Rule_countByMonths_46 O f n v0 v1 v2 v3 v5 v6 v7 M) := by
  intro n
  induction n with
  | zero =>
    intro v0 v1 v2 v3 v5 v6 v7 M
    exact xZ.no
  | succ n ih =>
    intro v0 v1 v2 v3 v5 v6 v7 M
    unfold f_Rule_countByMonths_46
    refine xZ.adv (me := xm96) hP_96 2 (pc' := 50) (lv' := [(0, .ref v0), (1, .int (yw v1)), (2, .int (yw v2)), (3, .int (yw v3)), (5, .int (yw v5)), (6, .int (yw v6)), (7, .int (yw v7))]) (st' := [.int (yw v5), .int (yw v7)]) rfl ?_
    refine xZ.jc_gt (me := xm96) hP_96 rfl (fun h1 => ?_) (fun h1 => ?_)
    · skip
      refine xZ.adv (me := xm96) hP_96 1 (pc' := 87) (lv' := [(0, .ref v0), (1, .int (yw v1)), (2, .int (yw v2)), (3, .int (yw v3)), (5, .int (yw v5)), (6, .int (yw v6)), (7, .int (yw v7))]) (st' := [.int (yw v6)]) rfl ?_
      exact xZ.jreti (me := xm96) hP_96 rfl rfl
    · skip
      refine xZ.adv (me := xm96) hP_96 2 (pc' := 56) (lv' := [(0, .ref v0), (1, .int (yw v1)), (2, .int (yw v2)), (3, .int (yw v3)), (5, .int (yw v5)), (6, .int (yw v6)), (7, .int (yw v7))]) (st' := [.int (yw v7), .ref v0]) rfl ?_
      refine xZ.callv (κ := oJ) (av := [.int (yw v7)]) (rest := []) (st' := fun x1 => [.int (yw x1)]) (k0 := v0) (me := xm96) hP_96 rfl (Or.inl rfl) ⟨rfl, by decide⟩ rfl rfl (Nat.le_of_ble_eq_true rfl) (by decide) hP_53 (Nat.le_of_ble_eq_true rfl) (fun _ => rfl) (k_f_Rule_dayInMonth O f (d + 0) v0 v7 M) (fun x1 M1 => ?_)
      refine xZ.adv (me := xm96) hP_96 3 (pc' := 64) (lv' := [(8, .int (yw x1)), (0, .ref v0), (1, .int (yw v1)), (2, .int (yw v2)), (3, .int (yw v3)), (5, .int (yw v5)), (6, .int (yw v6)), (7, .int (yw v7))]) (st' := [.int (yw v1), .int (yw x1)]) rfl ?_
      refine xZ.jc_lt (me := xm96) hP_96 rfl (fun h2 => ?_) (fun h2 => ?_)
      · skip
        exact xZ.sub (xsc (.tail _ (.head _)) (xsc (.tail _ (.tail _ (.head _))) (xsc (.tail _ (.tail _ (.tail _ (.head _)))) (xsc (.tail _ (.tail _ (.tail _ (.tail _ (.head _))))) (xsc (.tail _ (.tail _ (.tail _ (.tail _ (.tail _ (.head _)))))) (xsc (.tail _ (.tail _ (.tail _ (.tail _ (.tail _ (.tail _ (.head _))))))) (xsc (.tail _ (.tail _ (.tail _ (.tail _ (.tail _ (.tail _ (.tail _ (.head _)))))))) xsn))))))) (show ([8, 0, 1, 2, 3, 5, 6, 7] : List Nat).Nodup from by decide) (k_f_Rule_countByMonths_76 O f d (f_Rule_countByMonths_46 O f n) ih v0 v1 v2 v3 v5 v6 v7 M1)
      · skip
        refine xZ.adv (me := xm96) hP_96 2 (pc' := 70) (lv' := [(8, .int (yw x1)), (0, .ref v0), (1, .int (yw v1)), (2, .int (yw v2)), (3, .int (yw v3)), (5, .int (yw v5)), (6, .int (yw v6)), (7, .int (yw v7))]) (st' := [.int (yw v2), .int (yw x1)]) rfl ?_
        refine xZ.jc_gt (me := xm96) hP_96 rfl (fun h3 => ?_) (fun h3 => ?_)
        · skip
          exact xZ.sub (xsc (.tail _ (.head _)) (xsc (.tail _ (.tail _ (.head _))) (xsc (.tail _ (.tail _ (.tail _ (.head _)))) (xsc (.tail _ (.tail _ (.tail _ (.tail _ (.head _))))) (xsc (.tail _ (.tail _ (.tail _ (.tail _ (.tail _ (.head _)))))) (xsc (.tail _ (.tail _ (.tail _ (.tail _ (.tail _ (.tail _ (.head _))))))) (xsc (.tail _ (.tail _ (.tail _ (.tail _ (.tail _ (.tail _ (.tail _ (.head _)))))))) xsn))))))) (show ([8, 0, 1, 2, 3, 5, 6, 7] : List Nat).Nodup from by decide) (k_f_Rule_countByMonths_76 O f d (f_Rule_countByMonths_46 O f n) ih v0 v1 v2 v3 v5 v6 v7 M1)
        · skip
          refine xZ.adv (me := xm96) hP_96 1 (pc' := 76) (lv' := [(6, .int ((yw v6) + (1 : Int32))), (8, .int (yw x1)), (0, .ref v0), (1, .int (yw v1)), (2, .int (yw v2)), (3, .int (yw v3)), (5, .int (yw v5)), (7, .int (yw v7))]) (st' := []) rfl ?_
          refine xZ.eqs (lv2 := [(6, .int (yw (v6 + 1))), (8, .int (yw x1)), (0, .ref v0), (1, .int (yw v1)), (2, .int (yw v2)), (3, .int (yw v3)), (5, .int (yw v5)), (7, .int (yw v7))]) (st2 := []) (by simp only [yl_lit, yL_lit, yw_add, yw_sub, yw_mul, yw_neg, yl_add, yl_sub, yl_mul, cj_and, cj_or, cj_xor, cj_shl, cj_shr, cj_ushr, cj_div, cj_i2c, cj_i2b, cj_dc, ck_and, ck_or, ck_xor, ck_shl, ck_shr, ck_ushr, ck_i2l, ck_l2i, ck_cmp]) rfl ?_
          exact xZ.sub (xsc (.tail _ (.tail _ (.head _))) (xsc (.tail _ (.tail _ (.tail _ (.head _)))) (xsc (.tail _ (.tail _ (.tail _ (.tail _ (.head _))))) (xsc (.tail _ (.tail _ (.tail _ (.tail _ (.tail _ (.head _)))))) (xsc (.tail _ (.tail _ (.tail _ (.tail _ (.tail _ (.tail _ (.head _))))))) (xsc (.head _) (xsc (.tail _ (.tail _ (.tail _ (.tail _ (.tail _ (.tail _ (.tail _ (.head _)))))))) xsn))))))) (show ([6, 8, 0, 1, 2, 3, 5, 7] : List Nat).Nodup from by decide) (k_f_Rule_countByMonths_76 O f d (f_Rule_countByMonths_46 O f n) ih v0 v1 v2 v3 v5 (v6 + 1) v7 M1)
def f_Rule_countByMonths (O : Nat → Option va_E) (f : Nat) (v0 : Nat) (v1 : Int) (v2 : Int) (M : xM) : Option (Int × xM) :=
  (isO O M v0 9).bind fun _ =>
  xcl (f_Rule_monthStep O f v0 M) fun x1 M1 =>
  xcl (f_Days_monthOf O f v1 M1) fun x2 M2 =>
  xcl (f_Days_monthOf O f v2 M2) fun x3 M3 =>
  if yw 1 ≤ yw x1 then (
    (gJ O M3 v0 9 0).bind fun x4 =>
    xcl (f_Days_monthOf O f x4 M3) fun x5 M4 =>
    xcl (f_Math_floorMod O f (x5 - x2) x1 M4) fun x6 M5 =>
    f_Rule_countByMonths_46 O f f v0 v1 v2 x1 x3 0 (x2 + x6) M5
  ) else
  some (0, M3)
set_option maxRecDepth 20000 in
theorem k_f_Rule_countByMonths (O : Nat → Option va_E) (f d : Nat) (v0 : Nat) (v1 : Int) (v2 : Int) (M : xM) : xZ oJ O (d + 3) 96 0 [(0, .ref v0), (1, .int (yw v1)), (2, .int (yw v2))] [] M (f_Rule_countByMonths O f v0 v1 v2 M) := by
  unfold f_Rule_countByMonths
  refine xZ.adv (me := xm96) hP_96 1 (pc' := 1) (lv' := [(0, .ref v0), (1, .int (yw v1)), (2, .int (yw v2))]) (st' := [.ref v0]) rfl ?_
  refine xZ.callv (κ := oJ) (av := []) (rest := []) (st' := fun x1 => [.int (yw x1)]) (k0 := v0) (me := xm96) hP_96 rfl (Or.inl rfl) ⟨rfl, by decide⟩ rfl rfl (Nat.le_of_ble_eq_true rfl) (by decide) hP_51 (Nat.le_of_ble_eq_true rfl) (fun _ => rfl) (k_f_Rule_monthStep O f (d + 1) v0 M) (fun x1 M1 => ?_)
  refine xZ.adv (me := xm96) hP_96 2 (pc' := 6) (lv' := [(3, .int (yw x1)), (0, .ref v0), (1, .int (yw v1)), (2, .int (yw v2))]) (st' := [.int (yw v1)]) rfl ?_
  refine xZ.calls (κ := oJ) (av := [.int (yw v1)]) (rest := []) (st' := fun x2 => [.int (yw x2)]) (me := xm96) hP_96 rfl rfl rfl (Nat.le_of_ble_eq_true rfl) (by decide) hP_52 (Nat.le_of_ble_eq_true rfl) (fun _ => rfl) (k_f_Days_monthOf O f (d + 2) v1 M1) (fun x2 M2 => ?_)
  refine xZ.adv (me := xm96) hP_96 2 (pc' := 12) (lv' := [(4, .int (yw x2)), (3, .int (yw x1)), (0, .ref v0), (1, .int (yw v1)), (2, .int (yw v2))]) (st' := [.int (yw v2)]) rfl ?_
  refine xZ.calls (κ := oJ) (av := [.int (yw v2)]) (rest := []) (st' := fun x3 => [.int (yw x3)]) (me := xm96) hP_96 rfl rfl rfl (Nat.le_of_ble_eq_true rfl) (by decide) hP_52 (Nat.le_of_ble_eq_true rfl) (fun _ => rfl) (k_f_Days_monthOf O f (d + 2) v2 M2) (fun x3 M3 => ?_)
  refine xZ.adv (me := xm96) hP_96 5 (pc' := 22) (lv' := [(6, .int (0 : Int32)), (5, .int (yw x3)), (4, .int (yw x2)), (3, .int (yw x1)), (0, .ref v0), (1, .int (yw v1)), (2, .int (yw v2))]) (st' := [.int (1 : Int32), .int (yw x1)]) rfl ?_
  refine xZ.eqs (lv2 := [(6, .int (yw 0)), (5, .int (yw x3)), (4, .int (yw x2)), (3, .int (yw x1)), (0, .ref v0), (1, .int (yw v1)), (2, .int (yw v2))]) (st2 := [.int (yw 1), .int (yw x1)]) (by simp only [yl_lit, yL_lit, yw_add, yw_sub, yw_mul, yw_neg, yl_add, yl_sub, yl_mul, cj_and, cj_or, cj_xor, cj_shl, cj_shr, cj_ushr, cj_div, cj_i2c, cj_i2b, cj_dc, ck_and, ck_or, ck_xor, ck_shl, ck_shr, ck_ushr, ck_i2l, ck_l2i, ck_cmp]) (by simp only [yl_lit, yL_lit, yw_add, yw_sub, yw_mul, yw_neg, yl_add, yl_sub, yl_mul, cj_and, cj_or, cj_xor, cj_shl, cj_shr, cj_ushr, cj_div, cj_i2c, cj_i2b, cj_dc, ck_and, ck_or, ck_xor, ck_shl, ck_shr, ck_ushr, ck_i2l, ck_l2i, ck_cmp]) ?_
  refine xZ.jc_ge (me := xm96) hP_96 rfl (fun h1 => ?_) (fun h1 => ?_)
  · skip
    refine xZ.adv (me := xm96) hP_96 2 (pc' := 30) (lv' := [(6, .int (yw 0)), (5, .int (yw x3)), (4, .int (yw x2)), (3, .int (yw x1)), (0, .ref v0), (1, .int (yw v1)), (2, .int (yw v2))]) (st' := [.ref v0, .int (yw x2)]) rfl ?_
    refine xZ.k_gJ (me := xm96) hP_96 rfl (fun x4 => ?_)
    refine xZ.calls (κ := oJ) (av := [.int (yw x4)]) (rest := [.int (yw x2)]) (st' := fun x5 => [.int (yw x5), .int (yw x2)]) (me := xm96) hP_96 rfl rfl rfl (Nat.le_of_ble_eq_true rfl) (by decide) hP_52 (Nat.le_of_ble_eq_true rfl) (fun _ => rfl) (k_f_Days_monthOf O f (d + 2) x4 M3) (fun x5 M4 => ?_)
    refine xZ.adv (me := xm96) hP_96 3 (pc' := 40) (lv' := [(6, .int (yw 0)), (5, .int (yw x3)), (4, .int (yw x2)), (3, .int (yw x1)), (0, .ref v0), (1, .int (yw v1)), (2, .int (yw v2))]) (st' := [.int (yw x1), .int ((yw x5) - (yw x2)), .int (yw x2)]) rfl ?_
    refine xZ.eqs (lv2 := [(6, .int (yw 0)), (5, .int (yw x3)), (4, .int (yw x2)), (3, .int (yw x1)), (0, .ref v0), (1, .int (yw v1)), (2, .int (yw v2))]) (st2 := [.int (yw x1), .int (yw (x5 - x2)), .int (yw x2)]) rfl (by simp only [yl_lit, yL_lit, yw_add, yw_sub, yw_mul, yw_neg, yl_add, yl_sub, yl_mul, cj_and, cj_or, cj_xor, cj_shl, cj_shr, cj_ushr, cj_div, cj_i2c, cj_i2b, cj_dc, ck_and, ck_or, ck_xor, ck_shl, ck_shr, ck_ushr, ck_i2l, ck_l2i, ck_cmp]) ?_
    refine xZ.calls (κ := oJ) (av := [.int (yw (x5 - x2)), .int (yw x1)]) (rest := [.int (yw x2)]) (st' := fun x6 => [.int (yw x6), .int (yw x2)]) (me := xm96) hP_96 rfl rfl rfl (Nat.le_of_ble_eq_true rfl) (by decide) hP_250 (Nat.le_of_ble_eq_true rfl) (fun _ => rfl) (k_f_Math_floorMod O f (d + 2) (x5 - x2) x1 M4) (fun x6 M5 => ?_)
    refine xZ.adv (me := xm96) hP_96 2 (pc' := 46) (lv' := [(7, .int ((yw x2) + (yw x6))), (6, .int (yw 0)), (5, .int (yw x3)), (4, .int (yw x2)), (3, .int (yw x1)), (0, .ref v0), (1, .int (yw v1)), (2, .int (yw v2))]) (st' := []) rfl ?_
    refine xZ.eqs (lv2 := [(7, .int (yw (x2 + x6))), (6, .int (yw 0)), (5, .int (yw x3)), (4, .int (yw x2)), (3, .int (yw x1)), (0, .ref v0), (1, .int (yw v1)), (2, .int (yw v2))]) (st2 := []) (by simp only [yl_lit, yL_lit, yw_add, yw_sub, yw_mul, yw_neg, yl_add, yl_sub, yl_mul, cj_and, cj_or, cj_xor, cj_shl, cj_shr, cj_ushr, cj_div, cj_i2c, cj_i2b, cj_dc, ck_and, ck_or, ck_xor, ck_shl, ck_shr, ck_ushr, ck_i2l, ck_l2i, ck_cmp]) rfl ?_
    exact xZ.sub (xsc (.tail _ (.tail _ (.tail _ (.tail _ (.tail _ (.head _)))))) (xsc (.tail _ (.tail _ (.tail _ (.tail _ (.tail _ (.tail _ (.head _))))))) (xsc (.tail _ (.tail _ (.tail _ (.tail _ (.tail _ (.tail _ (.tail _ (.head _)))))))) (xsc (.tail _ (.tail _ (.tail _ (.tail _ (.head _))))) (xsc (.tail _ (.tail _ (.head _))) (xsc (.tail _ (.head _)) (xsc (.head _) xsn))))))) (show ([7, 6, 5, 4, 3, 0, 1, 2] : List Nat).Nodup from by decide) (k_f_Rule_countByMonths_46 O f d f v0 v1 v2 x1 x3 0 (x2 + x6) M5)
  · skip
    refine xZ.adv (me := xm96) hP_96 1 (pc' := 26) (lv' := [(6, .int (yw 0)), (5, .int (yw x3)), (4, .int (yw x2)), (3, .int (yw x1)), (0, .ref v0), (1, .int (yw v1)), (2, .int (yw v2))]) (st' := [.int (0 : Int32)]) rfl ?_
    refine xZ.eqs (lv2 := [(6, .int (yw 0)), (5, .int (yw x3)), (4, .int (yw x2)), (3, .int (yw x1)), (0, .ref v0), (1, .int (yw v1)), (2, .int (yw v2))]) (st2 := [.int (yw 0)]) rfl (by simp only [yl_lit, yL_lit, yw_add, yw_sub, yw_mul, yw_neg, yl_add, yl_sub, yl_mul, cj_and, cj_or, cj_xor, cj_shl, cj_shr, cj_ushr, cj_div, cj_i2c, cj_i2b, cj_dc, ck_and, ck_or, ck_xor, ck_shl, ck_shr, ck_ushr, ck_i2l, ck_l2i, ck_cmp]) ?_
    exact xZ.jreti (me := xm96) hP_96 rfl rfl
def f_Math_floorDiv (O : Nat → Option va_E) (f : Nat) (v0 : Int) (v1 : Int) (M : xM) : Option (Int × xM) :=
  if yw v1 = yw 0 then none else xlet ((jdiv v0 v1)) fun x1 =>
  if yw 0 ≤ yw (jxor v0 v1) then (
    some (x1, M)
  ) else
  if yw (x1 * v1) = yw v0 then (
    some (x1, M)
  ) else
  some ((x1 - 1), M)
set_option maxRecDepth 20000 in
theorem k_f_Math_floorDiv (O : Nat → Option va_E) (f d : Nat) (v0 : Int) (v1 : Int) (M : xM) : xZ oJ O (d + 0) 251 0 [(0, .int (yw v0)), (1, .int (yw v1))] [] M (f_Math_floorDiv O f v0 v1 M) := by
  unfold f_Math_floorDiv
  refine xZ.adv (me := xm251) hP_251 2 (pc' := 2) (lv' := [(0, .int (yw v0)), (1, .int (yw v1))]) (st' := [.int (yw v1), .int (yw v0)]) rfl ?_
  refine xZ.k_jdiv (me := xm251) hP_251 rfl (fun x1 => ?_)
  refine xZ.adv (me := xm251) hP_251 4 (pc' := 7) (lv' := [(2, .int (yw x1)), (0, .int (yw v0)), (1, .int (yw v1))]) (st' := [.int ((yw v0) ^^^ (yw v1))]) rfl ?_
  refine xZ.eqs (lv2 := [(2, .int (yw x1)), (0, .int (yw v0)), (1, .int (yw v1))]) (st2 := [.int (yw (jxor v0 v1))]) rfl (by simp only [yl_lit, yL_lit, yw_add, yw_sub, yw_mul, yw_neg, yl_add, yl_sub, yl_mul, cj_and, cj_or, cj_xor, cj_shl, cj_shr, cj_ushr, cj_div, cj_i2c, cj_i2b, cj_dc, ck_and, ck_or, ck_xor, ck_shl, ck_shr, ck_ushr, ck_i2l, ck_l2i, ck_cmp]) ?_
  refine xZ.jf_ge (me := xm251) hP_251 rfl (fun h1 => ?_) (fun h1 => ?_)
  · skip
    refine xZ.adv (me := xm251) hP_251 1 (pc' := 22) (lv' := [(2, .int (yw x1)), (0, .int (yw v0)), (1, .int (yw v1))]) (st' := [.int (yw x1)]) rfl ?_
    exact xZ.jreti (me := xm251) hP_251 rfl rfl
  · skip
    refine xZ.adv (me := xm251) hP_251 4 (pc' := 14) (lv' := [(2, .int (yw x1)), (0, .int (yw v0)), (1, .int (yw v1))]) (st' := [.int (yw v0), .int ((yw x1) * (yw v1))]) rfl ?_
    refine xZ.eqs (lv2 := [(2, .int (yw x1)), (0, .int (yw v0)), (1, .int (yw v1))]) (st2 := [.int (yw v0), .int (yw (x1 * v1))]) rfl (by simp only [yl_lit, yL_lit, yw_add, yw_sub, yw_mul, yw_neg, yl_add, yl_sub, yl_mul, cj_and, cj_or, cj_xor, cj_shl, cj_shr, cj_ushr, cj_div, cj_i2c, cj_i2b, cj_dc, ck_and, ck_or, ck_xor, ck_shl, ck_shr, ck_ushr, ck_i2l, ck_l2i, ck_cmp]) ?_
    refine xZ.jc_eq (me := xm251) hP_251 rfl (fun h2 => ?_) (fun h2 => ?_)
    · skip
      refine xZ.adv (me := xm251) hP_251 1 (pc' := 22) (lv' := [(2, .int (yw x1)), (0, .int (yw v0)), (1, .int (yw v1))]) (st' := [.int (yw x1)]) rfl ?_
      exact xZ.jreti (me := xm251) hP_251 rfl rfl
    · skip
      refine xZ.adv (me := xm251) hP_251 3 (pc' := 20) (lv' := [(2, .int (yw x1)), (0, .int (yw v0)), (1, .int (yw v1))]) (st' := [.int ((yw x1) - (1 : Int32))]) rfl ?_
      refine xZ.eqs (lv2 := [(2, .int (yw x1)), (0, .int (yw v0)), (1, .int (yw v1))]) (st2 := [.int (yw (x1 - 1))]) rfl (by simp only [yl_lit, yL_lit, yw_add, yw_sub, yw_mul, yw_neg, yl_add, yl_sub, yl_mul, cj_and, cj_or, cj_xor, cj_shl, cj_shr, cj_ushr, cj_div, cj_i2c, cj_i2b, cj_dc, ck_and, ck_or, ck_xor, ck_shl, ck_shr, ck_ushr, ck_i2l, ck_l2i, ck_cmp]) ?_
      exact xZ.jreti (me := xm251) hP_251 rfl rfl
def f_Rule_count_42 (O : Nat → Option va_E) (f : Nat) (v0 : Nat) (v3 : Int) (M : xM) : Option (Int × xM) :=
  (gJ O M v0 9 0).bind fun x1 =>
  if yw v3 = yw x1 then (
    some (1, M)
  ) else
  some (0, M)
set_option maxRecDepth 20000 in
theorem k_f_Rule_count_42 (O : Nat → Option va_E) (f d : Nat) (v0 : Nat) (v3 : Int) (M : xM) : xZ oJ O (d + 4) 94 42 [(0, .ref v0), (3, .int (yw v3))] [] M (f_Rule_count_42 O f v0 v3 M) := by
  unfold f_Rule_count_42
  refine xZ.adv (me := xm94) hP_94 2 (pc' := 44) (lv' := [(0, .ref v0), (3, .int (yw v3))]) (st' := [.ref v0, .int (yw v3)]) rfl ?_
  refine xZ.k_gJ (me := xm94) hP_94 rfl (fun x1 => ?_)
  refine xZ.jc_ne (me := xm94) hP_94 rfl (fun h1 => ?_) (fun h1 => ?_)
  · skip
    refine xZ.adv (me := xm94) hP_94 2 (pc' := 55) (lv' := [(0, .ref v0), (3, .int (yw v3))]) (st' := [.int (1 : Int32)]) rfl ?_
    refine xZ.eqs (lv2 := [(0, .ref v0), (3, .int (yw v3))]) (st2 := [.int (yw 1)]) rfl (by simp only [yl_lit, yL_lit, yw_add, yw_sub, yw_mul, yw_neg, yl_add, yl_sub, yl_mul, cj_and, cj_or, cj_xor, cj_shl, cj_shr, cj_ushr, cj_div, cj_i2c, cj_i2b, cj_dc, ck_and, ck_or, ck_xor, ck_shl, ck_shr, ck_ushr, ck_i2l, ck_l2i, ck_cmp]) ?_
    exact xZ.jreti (me := xm94) hP_94 rfl rfl
  · skip
    refine xZ.adv (me := xm94) hP_94 1 (pc' := 55) (lv' := [(0, .ref v0), (3, .int (yw v3))]) (st' := [.int (0 : Int32)]) rfl ?_
    refine xZ.eqs (lv2 := [(0, .ref v0), (3, .int (yw v3))]) (st2 := [.int (yw 0)]) rfl (by simp only [yl_lit, yL_lit, yw_add, yw_sub, yw_mul, yw_neg, yl_add, yl_sub, yl_mul, cj_and, cj_or, cj_xor, cj_shl, cj_shr, cj_ushr, cj_div, cj_i2c, cj_i2b, cj_dc, ck_and, ck_or, ck_xor, ck_shl, ck_shr, ck_ushr, ck_i2l, ck_l2i, ck_cmp]) ?_
    exact xZ.jreti (me := xm94) hP_94 rfl rfl
def f_Rule_count (O : Nat → Option va_E) (f : Nat) (v0 : Nat) (v1 : Int) (v2 : Int) (M : xM) : Option (Int × xM) :=
  (gJ O M v0 9 0).bind fun x1 =>
  xcl (f_Math_max O f v1 x1 M) fun x2 M1 =>
  (gJ O M1 v0 9 7).bind fun x3 =>
  xcl (f_Math_min O f v2 x3 M1) fun x4 M2 =>
  if yw x2 ≤ yw x4 then (
    (gJ O M2 v0 9 1).bind fun x5 =>
    if yw x5 = yw 0 then (
      f_Rule_count_42 O f v0 x2 M2
    ) else
    (gJ O M2 v0 9 2).bind fun x6 =>
    if yw 1 ≤ yw x6 then (
      (gJ O M2 v0 9 1).bind fun x7 =>
      if yw x7 = yw 1 then (
        (gJ O M2 v0 9 0).bind fun x8 =>
        (gJ O M2 v0 9 2).bind fun x9 =>
        xcl (f_Math_floorDiv O f (x4 - x8) x9 M2) fun x10 M3 =>
        (gJ O M3 v0 9 0).bind fun x11 =>
        (gJ O M3 v0 9 2).bind fun x12 =>
        xcl (f_Math_floorDiv O f ((x2 - 1) - x11) x12 M3) fun x13 M4 =>
        some ((x10 - x13), M4)
      ) else
      (gJ O M2 v0 9 1).bind fun x14 =>
      if yw x14 = yw 2 then (
        (isO O M2 v0 9).bind fun _ =>
        xcl (f_Rule_countByWeeks O f v0 x4 M2) fun x15 M5 =>
        (isO O M5 v0 9).bind fun _ =>
        xcl (f_Rule_countByWeeks O f v0 (x2 - 1) M5) fun x16 M6 =>
        some ((x15 - x16), M6)
      ) else
      (isO O M2 v0 9).bind fun _ =>
      xcl (f_Rule_countByMonths O f v0 x2 x4 M2) fun x17 M7 =>
      some (x17, M7)
    ) else
    f_Rule_count_42 O f v0 x2 M2
  ) else
  some (0, M2)
set_option maxRecDepth 20000 in
theorem k_f_Rule_count (O : Nat → Option va_E) (f d : Nat) (v0 : Nat) (v1 : Int) (v2 : Int) (M : xM) : xZ oJ O (d + 4) 94 0 [(0, .ref v0), (1, .int (yw v1)), (2, .int (yw v2))] [] M (f_Rule_count O f v0 v1 v2 M) := by
  unfold f_Rule_count
  refine xZ.adv (me := xm94) hP_94 2 (pc' := 2) (lv' := [(0, .ref v0), (1, .int (yw v1)), (2, .int (yw v2))]) (st' := [.ref v0, .int (yw v1)]) rfl ?_
  refine xZ.k_gJ (me := xm94) hP_94 rfl (fun x1 => ?_)
  refine xZ.calls (κ := oJ) (av := [.int (yw v1), .int (yw x1)]) (rest := []) (st' := fun x2 => [.int (yw x2)]) (me := xm94) hP_94 rfl rfl rfl (Nat.le_of_ble_eq_true rfl) (by decide) hP_247 (Nat.le_of_ble_eq_true rfl) (fun _ => rfl) (k_f_Math_max O f (d + 3) v1 x1 M) (fun x2 M1 => ?_)
  refine xZ.adv (me := xm94) hP_94 3 (pc' := 11) (lv' := [(3, .int (yw x2)), (0, .ref v0), (1, .int (yw v1)), (2, .int (yw v2))]) (st' := [.ref v0, .int (yw v2)]) rfl ?_
  refine xZ.k_gJ (me := xm94) hP_94 rfl (fun x3 => ?_)
  refine xZ.calls (κ := oJ) (av := [.int (yw v2), .int (yw x3)]) (rest := []) (st' := fun x4 => [.int (yw x4)]) (me := xm94) hP_94 rfl rfl rfl (Nat.le_of_ble_eq_true rfl) (by decide) hP_248 (Nat.le_of_ble_eq_true rfl) (fun _ => rfl) (k_f_Math_min O f (d + 3) v2 x3 M1) (fun x4 M2 => ?_)
  refine xZ.adv (me := xm94) hP_94 3 (pc' := 22) (lv' := [(4, .int (yw x4)), (3, .int (yw x2)), (0, .ref v0), (1, .int (yw v1)), (2, .int (yw v2))]) (st' := [.int (yw x4), .int (yw x2)]) rfl ?_
  refine xZ.jc_le (me := xm94) hP_94 rfl (fun h1 => ?_) (fun h1 => ?_)
  · skip
    refine xZ.adv (me := xm94) hP_94 1 (pc' := 28) (lv' := [(4, .int (yw x4)), (3, .int (yw x2)), (0, .ref v0), (1, .int (yw v1)), (2, .int (yw v2))]) (st' := [.ref v0]) rfl ?_
    refine xZ.k_gJ (me := xm94) hP_94 rfl (fun x5 => ?_)
    refine xZ.jf_eq (me := xm94) hP_94 rfl (fun h2 => ?_) (fun h2 => ?_)
    · skip
      exact xZ.sub (xsc (.tail _ (.tail _ (.head _))) (xsc (.tail _ (.head _)) xsn)) (show ([4, 3, 0, 1, 2] : List Nat).Nodup from by decide) (k_f_Rule_count_42 O f d v0 x2 M2)
    · skip
      refine xZ.adv (me := xm94) hP_94 1 (pc' := 35) (lv' := [(4, .int (yw x4)), (3, .int (yw x2)), (0, .ref v0), (1, .int (yw v1)), (2, .int (yw v2))]) (st' := [.ref v0]) rfl ?_
      refine xZ.k_gJ (me := xm94) hP_94 rfl (fun x6 => ?_)
      refine xZ.adv (me := xm94) hP_94 1 (pc' := 39) (lv' := [(4, .int (yw x4)), (3, .int (yw x2)), (0, .ref v0), (1, .int (yw v1)), (2, .int (yw v2))]) (st' := [.int (1 : Int32), .int (yw x6)]) rfl ?_
      refine xZ.eqs (lv2 := [(4, .int (yw x4)), (3, .int (yw x2)), (0, .ref v0), (1, .int (yw v1)), (2, .int (yw v2))]) (st2 := [.int (yw 1), .int (yw x6)]) rfl (by simp only [yl_lit, yL_lit, yw_add, yw_sub, yw_mul, yw_neg, yl_add, yl_sub, yl_mul, cj_and, cj_or, cj_xor, cj_shl, cj_shr, cj_ushr, cj_div, cj_i2c, cj_i2b, cj_dc, ck_and, ck_or, ck_xor, ck_shl, ck_shr, ck_ushr, ck_i2l, ck_l2i, ck_cmp]) ?_
      refine xZ.jc_ge (me := xm94) hP_94 rfl (fun h3 => ?_) (fun h3 => ?_)
      · skip
        refine xZ.adv (me := xm94) hP_94 1 (pc' := 57) (lv' := [(4, .int (yw x4)), (3, .int (yw x2)), (0, .ref v0), (1, .int (yw v1)), (2, .int (yw v2))]) (st' := [.ref v0]) rfl ?_
        refine xZ.k_gJ (me := xm94) hP_94 rfl (fun x7 => ?_)
        refine xZ.adv (me := xm94) hP_94 1 (pc' := 61) (lv' := [(4, .int (yw x4)), (3, .int (yw x2)), (0, .ref v0), (1, .int (yw v1)), (2, .int (yw v2))]) (st' := [.int (1 : Int32), .int (yw x7)]) rfl ?_
        refine xZ.eqs (lv2 := [(4, .int (yw x4)), (3, .int (yw x2)), (0, .ref v0), (1, .int (yw v1)), (2, .int (yw v2))]) (st2 := [.int (yw 1), .int (yw x7)]) rfl (by simp only [yl_lit, yL_lit, yw_add, yw_sub, yw_mul, yw_neg, yl_add, yl_sub, yl_mul, cj_and, cj_or, cj_xor, cj_shl, cj_shr, cj_ushr, cj_div, cj_i2c, cj_i2b, cj_dc, ck_and, ck_or, ck_xor, ck_shl, ck_shr, ck_ushr, ck_i2l, ck_l2i, ck_cmp]) ?_
        refine xZ.jc_ne (me := xm94) hP_94 rfl (fun h4 => ?_) (fun h4 => ?_)
        · skip
          refine xZ.adv (me := xm94) hP_94 2 (pc' := 67) (lv' := [(4, .int (yw x4)), (3, .int (yw x2)), (0, .ref v0), (1, .int (yw v1)), (2, .int (yw v2))]) (st' := [.ref v0, .int (yw x4)]) rfl ?_
          refine xZ.k_gJ (me := xm94) hP_94 rfl (fun x8 => ?_)
          refine xZ.adv (me := xm94) hP_94 2 (pc' := 72) (lv' := [(4, .int (yw x4)), (3, .int (yw x2)), (0, .ref v0), (1, .int (yw v1)), (2, .int (yw v2))]) (st' := [.ref v0, .int ((yw x4) - (yw x8))]) rfl ?_
          refine xZ.eqs (lv2 := [(4, .int (yw x4)), (3, .int (yw x2)), (0, .ref v0), (1, .int (yw v1)), (2, .int (yw v2))]) (st2 := [.ref v0, .int (yw (x4 - x8))]) rfl (by simp only [yl_lit, yL_lit, yw_add, yw_sub, yw_mul, yw_neg, yl_add, yl_sub, yl_mul, cj_and, cj_or, cj_xor, cj_shl, cj_shr, cj_ushr, cj_div, cj_i2c, cj_i2b, cj_dc, ck_and, ck_or, ck_xor, ck_shl, ck_shr, ck_ushr, ck_i2l, ck_l2i, ck_cmp]) ?_
          refine xZ.k_gJ (me := xm94) hP_94 rfl (fun x9 => ?_)
          refine xZ.calls (κ := oJ) (av := [.int (yw (x4 - x8)), .int (yw x9)]) (rest := []) (st' := fun x10 => [.int (yw x10)]) (me := xm94) hP_94 rfl rfl rfl (Nat.le_of_ble_eq_true rfl) (by decide) hP_251 (Nat.le_of_ble_eq_true rfl) (fun _ => rfl) (k_f_Math_floorDiv O f (d + 3) (x4 - x8) x9 M2) (fun x10 M3 => ?_)
          refine xZ.adv (me := xm94) hP_94 4 (pc' := 82) (lv' := [(4, .int (yw x4)), (3, .int (yw x2)), (0, .ref v0), (1, .int (yw v1)), (2, .int (yw v2))]) (st' := [.ref v0, .int ((yw x2) - (1 : Int32)), .int (yw x10)]) rfl ?_
          refine xZ.eqs (lv2 := [(4, .int (yw x4)), (3, .int (yw x2)), (0, .ref v0), (1, .int (yw v1)), (2, .int (yw v2))]) (st2 := [.ref v0, .int (yw (x2 - 1)), .int (yw x10)]) rfl (by simp only [yl_lit, yL_lit, yw_add, yw_sub, yw_mul, yw_neg, yl_add, yl_sub, yl_mul, cj_and, cj_or, cj_xor, cj_shl, cj_shr, cj_ushr, cj_div, cj_i2c, cj_i2b, cj_dc, ck_and, ck_or, ck_xor, ck_shl, ck_shr, ck_ushr, ck_i2l, ck_l2i, ck_cmp]) ?_
          refine xZ.k_gJ (me := xm94) hP_94 rfl (fun x11 => ?_)
          refine xZ.adv (me := xm94) hP_94 2 (pc' := 87) (lv' := [(4, .int (yw x4)), (3, .int (yw x2)), (0, .ref v0), (1, .int (yw v1)), (2, .int (yw v2))]) (st' := [.ref v0, .int ((yw (x2 - 1)) - (yw x11)), .int (yw x10)]) rfl ?_
          refine xZ.eqs (lv2 := [(4, .int (yw x4)), (3, .int (yw x2)), (0, .ref v0), (1, .int (yw v1)), (2, .int (yw v2))]) (st2 := [.ref v0, .int (yw ((x2 - 1) - x11)), .int (yw x10)]) rfl (by simp only [yl_lit, yL_lit, yw_add, yw_sub, yw_mul, yw_neg, yl_add, yl_sub, yl_mul, cj_and, cj_or, cj_xor, cj_shl, cj_shr, cj_ushr, cj_div, cj_i2c, cj_i2b, cj_dc, ck_and, ck_or, ck_xor, ck_shl, ck_shr, ck_ushr, ck_i2l, ck_l2i, ck_cmp]) ?_
          refine xZ.k_gJ (me := xm94) hP_94 rfl (fun x12 => ?_)
          refine xZ.calls (κ := oJ) (av := [.int (yw ((x2 - 1) - x11)), .int (yw x12)]) (rest := [.int (yw x10)]) (st' := fun x13 => [.int (yw x13), .int (yw x10)]) (me := xm94) hP_94 rfl rfl rfl (Nat.le_of_ble_eq_true rfl) (by decide) hP_251 (Nat.le_of_ble_eq_true rfl) (fun _ => rfl) (k_f_Math_floorDiv O f (d + 3) ((x2 - 1) - x11) x12 M3) (fun x13 M4 => ?_)
          refine xZ.adv (me := xm94) hP_94 1 (pc' := 94) (lv' := [(4, .int (yw x4)), (3, .int (yw x2)), (0, .ref v0), (1, .int (yw v1)), (2, .int (yw v2))]) (st' := [.int ((yw x10) - (yw x13))]) rfl ?_
          refine xZ.eqs (lv2 := [(4, .int (yw x4)), (3, .int (yw x2)), (0, .ref v0), (1, .int (yw v1)), (2, .int (yw v2))]) (st2 := [.int (yw (x10 - x13))]) rfl (by simp only [yl_lit, yL_lit, yw_add, yw_sub, yw_mul, yw_neg, yl_add, yl_sub, yl_mul, cj_and, cj_or, cj_xor, cj_shl, cj_shr, cj_ushr, cj_div, cj_i2c, cj_i2b, cj_dc, ck_and, ck_or, ck_xor, ck_shl, ck_shr, ck_ushr, ck_i2l, ck_l2i, ck_cmp]) ?_
          exact xZ.jreti (me := xm94) hP_94 rfl rfl
        · skip
          refine xZ.adv (me := xm94) hP_94 1 (pc' := 96) (lv' := [(4, .int (yw x4)), (3, .int (yw x2)), (0, .ref v0), (1, .int (yw v1)), (2, .int (yw v2))]) (st' := [.ref v0]) rfl ?_
          refine xZ.k_gJ (me := xm94) hP_94 rfl (fun x14 => ?_)
          refine xZ.adv (me := xm94) hP_94 1 (pc' := 100) (lv' := [(4, .int (yw x4)), (3, .int (yw x2)), (0, .ref v0), (1, .int (yw v1)), (2, .int (yw v2))]) (st' := [.int (2 : Int32), .int (yw x14)]) rfl ?_
          refine xZ.eqs (lv2 := [(4, .int (yw x4)), (3, .int (yw x2)), (0, .ref v0), (1, .int (yw v1)), (2, .int (yw v2))]) (st2 := [.int (yw 2), .int (yw x14)]) rfl (by simp only [yl_lit, yL_lit, yw_add, yw_sub, yw_mul, yw_neg, yl_add, yl_sub, yl_mul, cj_and, cj_or, cj_xor, cj_shl, cj_shr, cj_ushr, cj_div, cj_i2c, cj_i2b, cj_dc, ck_and, ck_or, ck_xor, ck_shl, ck_shr, ck_ushr, ck_i2l, ck_l2i, ck_cmp]) ?_
          refine xZ.jc_ne (me := xm94) hP_94 rfl (fun h5 => ?_) (fun h5 => ?_)
          · skip
            refine xZ.adv (me := xm94) hP_94 2 (pc' := 106) (lv' := [(4, .int (yw x4)), (3, .int (yw x2)), (0, .ref v0), (1, .int (yw v1)), (2, .int (yw v2))]) (st' := [.int (yw x4), .ref v0]) rfl ?_
            refine xZ.callv (κ := oJ) (av := [.int (yw x4)]) (rest := []) (st' := fun x15 => [.int (yw x15)]) (k0 := v0) (me := xm94) hP_94 rfl (Or.inl rfl) ⟨rfl, by decide⟩ rfl rfl (Nat.le_of_ble_eq_true rfl) (by decide) hP_95 (Nat.le_of_ble_eq_true rfl) (fun _ => rfl) (k_f_Rule_countByWeeks O f (d + 2) v0 x4 M2) (fun x15 M5 => ?_)
            refine xZ.adv (me := xm94) hP_94 4 (pc' := 113) (lv' := [(4, .int (yw x4)), (3, .int (yw x2)), (0, .ref v0), (1, .int (yw v1)), (2, .int (yw v2))]) (st' := [.int ((yw x2) - (1 : Int32)), .ref v0, .int (yw x15)]) rfl ?_
            refine xZ.eqs (lv2 := [(4, .int (yw x4)), (3, .int (yw x2)), (0, .ref v0), (1, .int (yw v1)), (2, .int (yw v2))]) (st2 := [.int (yw (x2 - 1)), .ref v0, .int (yw x15)]) rfl (by simp only [yl_lit, yL_lit, yw_add, yw_sub, yw_mul, yw_neg, yl_add, yl_sub, yl_mul, cj_and, cj_or, cj_xor, cj_shl, cj_shr, cj_ushr, cj_div, cj_i2c, cj_i2b, cj_dc, ck_and, ck_or, ck_xor, ck_shl, ck_shr, ck_ushr, ck_i2l, ck_l2i, ck_cmp]) ?_
            refine xZ.callv (κ := oJ) (av := [.int (yw (x2 - 1))]) (rest := [.int (yw x15)]) (st' := fun x16 => [.int (yw x16), .int (yw x15)]) (k0 := v0) (me := xm94) hP_94 rfl (Or.inl rfl) ⟨rfl, by decide⟩ rfl rfl (Nat.le_of_ble_eq_true rfl) (by decide) hP_95 (Nat.le_of_ble_eq_true rfl) (fun _ => rfl) (k_f_Rule_countByWeeks O f (d + 2) v0 (x2 - 1) M5) (fun x16 M6 => ?_)
            refine xZ.adv (me := xm94) hP_94 1 (pc' := 117) (lv' := [(4, .int (yw x4)), (3, .int (yw x2)), (0, .ref v0), (1, .int (yw v1)), (2, .int (yw v2))]) (st' := [.int ((yw x15) - (yw x16))]) rfl ?_
            refine xZ.eqs (lv2 := [(4, .int (yw x4)), (3, .int (yw x2)), (0, .ref v0), (1, .int (yw v1)), (2, .int (yw v2))]) (st2 := [.int (yw (x15 - x16))]) rfl (by simp only [yl_lit, yL_lit, yw_add, yw_sub, yw_mul, yw_neg, yl_add, yl_sub, yl_mul, cj_and, cj_or, cj_xor, cj_shl, cj_shr, cj_ushr, cj_div, cj_i2c, cj_i2b, cj_dc, ck_and, ck_or, ck_xor, ck_shl, ck_shr, ck_ushr, ck_i2l, ck_l2i, ck_cmp]) ?_
            exact xZ.jreti (me := xm94) hP_94 rfl rfl
          · skip
            refine xZ.adv (me := xm94) hP_94 3 (pc' := 122) (lv' := [(4, .int (yw x4)), (3, .int (yw x2)), (0, .ref v0), (1, .int (yw v1)), (2, .int (yw v2))]) (st' := [.int (yw x4), .int (yw x2), .ref v0]) rfl ?_
            refine xZ.callv (κ := oJ) (av := [.int (yw x2), .int (yw x4)]) (rest := []) (st' := fun x17 => [.int (yw x17)]) (k0 := v0) (me := xm94) hP_94 rfl (Or.inl rfl) ⟨rfl, by decide⟩ rfl rfl (Nat.le_of_ble_eq_true rfl) (by decide) hP_96 (Nat.le_of_ble_eq_true rfl) (fun _ => rfl) (k_f_Rule_countByMonths O f (d + 0) v0 x2 x4 M2) (fun x17 M7 => ?_)
            exact xZ.jreti (me := xm94) hP_94 rfl rfl
      · skip
        exact xZ.sub (xsc (.tail _ (.tail _ (.head _))) (xsc (.tail _ (.head _)) xsn)) (show ([4, 3, 0, 1, 2] : List Nat).Nodup from by decide) (k_f_Rule_count_42 O f d v0 x2 M2)
  · skip
    refine xZ.adv (me := xm94) hP_94 1 (pc' := 26) (lv' := [(4, .int (yw x4)), (3, .int (yw x2)), (0, .ref v0), (1, .int (yw v1)), (2, .int (yw v2))]) (st' := [.int (0 : Int32)]) rfl ?_
    refine xZ.eqs (lv2 := [(4, .int (yw x4)), (3, .int (yw x2)), (0, .ref v0), (1, .int (yw v1)), (2, .int (yw v2))]) (st2 := [.int (yw 0)]) rfl (by simp only [yl_lit, yL_lit, yw_add, yw_sub, yw_mul, yw_neg, yl_add, yl_sub, yl_mul, cj_and, cj_or, cj_xor, cj_shl, cj_shr, cj_ushr, cj_div, cj_i2c, cj_i2b, cj_dc, ck_and, ck_or, ck_xor, ck_shl, ck_shr, ck_ushr, ck_i2l, ck_l2i, ck_cmp]) ?_
    exact xZ.jreti (me := xm94) hP_94 rfl rfl
def f_Calendarhall_countDays (O : Nat → Option va_E) (f : Nat) (v0 : Nat) (v1 : Int) (v2 : Int) (v3 : Int) (M : xM) : Option (Int × xM) :=
  (isO O M v0 12).bind fun _ =>
  xcl (f_Calendarhall_seriesNumbered O f v0 v1 M) fun x1 M1 =>
  xcl (f_Calendarhall_needDay O f v2 M1) fun _ M2 =>
  xcl (f_Calendarhall_needRange O f v3 v2 146000 M2) fun _ M3 =>
  (gR O M3 x1 10 6).bind fun x4 =>
  (isO O M3 x4 9).bind fun _ =>
  xcl (f_Rule_count O f x4 v2 v3 M3) fun x5 M4 =>
  some (x5, M4)
set_option maxRecDepth 20000 in
theorem k_f_Calendarhall_countDays (O : Nat → Option va_E) (f d : Nat) (v0 : Nat) (v1 : Int) (v2 : Int) (v3 : Int) (M : xM) : xZ oJ O (d + 5) 93 0 [(0, .ref v0), (1, .int (yw v1)), (2, .int (yw v2)), (3, .int (yw v3))] [] M (f_Calendarhall_countDays O f v0 v1 v2 v3 M) := by
  unfold f_Calendarhall_countDays
  refine xZ.adv (me := xm93) hP_93 2 (pc' := 2) (lv' := [(0, .ref v0), (1, .int (yw v1)), (2, .int (yw v2)), (3, .int (yw v3))]) (st' := [.int (yw v1), .ref v0]) rfl ?_
  refine xZ.callv (κ := oR) (av := [.int (yw v1)]) (rest := []) (st' := fun x1 => [.ref x1]) (k0 := v0) (me := xm93) hP_93 rfl (Or.inl rfl) ⟨rfl, by decide⟩ rfl rfl (Nat.le_of_ble_eq_true rfl) (by decide) hP_79 (Nat.le_of_ble_eq_true rfl) (fun _ => rfl) (k_f_Calendarhall_seriesNumbered O f (d + 3) v0 v1 M) (fun x1 M1 => ?_)
  refine xZ.adv (me := xm93) hP_93 2 (pc' := 8) (lv' := [(4, .ref x1), (0, .ref v0), (1, .int (yw v1)), (2, .int (yw v2)), (3, .int (yw v3))]) (st' := [.int (yw v2)]) rfl ?_
  refine xZ.calls (κ := oU) (av := [.int (yw v2)]) (rest := []) (st' := fun _ => []) (me := xm93) hP_93 rfl rfl rfl (Nat.le_of_ble_eq_true rfl) (by decide) hP_37 (Nat.le_of_ble_eq_true rfl) (fun _ => rfl) (k_f_Calendarhall_needDay O f (d + 4) v2 M1) (fun _ M2 => ?_)
  refine xZ.adv (me := xm93) hP_93 3 (pc' := 15) (lv' := [(4, .ref x1), (0, .ref v0), (1, .int (yw v1)), (2, .int (yw v2)), (3, .int (yw v3))]) (st' := [.int (146000 : Int32), .int (yw v2), .int (yw v3)]) rfl ?_
  refine xZ.eqs (lv2 := [(4, .ref x1), (0, .ref v0), (1, .int (yw v1)), (2, .int (yw v2)), (3, .int (yw v3))]) (st2 := [.int (yw 146000), .int (yw v2), .int (yw v3)]) rfl (by simp only [yl_lit, yL_lit, yw_add, yw_sub, yw_mul, yw_neg, yl_add, yl_sub, yl_mul, cj_and, cj_or, cj_xor, cj_shl, cj_shr, cj_ushr, cj_div, cj_i2c, cj_i2b, cj_dc, ck_and, ck_or, ck_xor, ck_shl, ck_shr, ck_ushr, ck_i2l, ck_l2i, ck_cmp]) ?_
  refine xZ.calls (κ := oU) (av := [.int (yw v3), .int (yw v2), .int (yw 146000)]) (rest := []) (st' := fun _ => []) (me := xm93) hP_93 rfl rfl rfl (Nat.le_of_ble_eq_true rfl) (by decide) hP_22 (Nat.le_of_ble_eq_true rfl) (fun _ => rfl) (k_f_Calendarhall_needRange O f (d + 4) v3 v2 146000 M2) (fun _ M3 => ?_)
  refine xZ.adv (me := xm93) hP_93 1 (pc' := 20) (lv' := [(4, .ref x1), (0, .ref v0), (1, .int (yw v1)), (2, .int (yw v2)), (3, .int (yw v3))]) (st' := [.ref x1]) rfl ?_
  refine xZ.k_gR (me := xm93) hP_93 rfl (fun x4 => ?_)
  refine xZ.adv (me := xm93) hP_93 2 (pc' := 25) (lv' := [(4, .ref x1), (0, .ref v0), (1, .int (yw v1)), (2, .int (yw v2)), (3, .int (yw v3))]) (st' := [.int (yw v3), .int (yw v2), .ref x4]) rfl ?_
  refine xZ.callv (κ := oJ) (av := [.int (yw v2), .int (yw v3)]) (rest := []) (st' := fun x5 => [.int (yw x5)]) (k0 := x4) (me := xm93) hP_93 rfl (Or.inl rfl) ⟨rfl, by decide⟩ rfl rfl (Nat.le_of_ble_eq_true rfl) (by decide) hP_94 (Nat.le_of_ble_eq_true rfl) (fun _ => rfl) (k_f_Rule_count O f (d + 0) x4 v2 v3 M3) (fun x5 M4 => ?_)
  exact xZ.jreti (me := xm93) hP_93 rfl rfl
def f_Rule_placeInSet_17 (O : Nat → Option va_E) (f : Nat) : Nat → Nat → Int → Int → Int → Int → Int → xM → Option (Int × xM)
  | 0, _, _, _, _, _, _, _ => none
  | n + 1, v0, v1, v2, v3, v4, v5, M =>
    if yw (v2 - (jdiv v2 7) * 7) < yw v5 then (
      some (v4, M)
    ) else
    (gJ O M v0 9 3).bind fun x1 =>
    xcl (f_Days_weekdayOf O f (v1 + (v3 * v5)) M) fun x2 M1 =>
    if yw (jand (jshr x1 (jand x2 31)) 1) = yw 1 then (
      f_Rule_placeInSet_17 O f n v0 v1 v2 v3 (v4 + 1) (v5 + 1) M1
    ) else
    f_Rule_placeInSet_17 O f n v0 v1 v2 v3 v4 (v5 + 1) M1
set_option maxRecDepth 20000 in
theorem k_f_Rule_placeInSet_17 (O : Nat → Option va_E) (f d : Nat) : ∀ (n : Nat) (v0 : Nat) (v1 : Int) (v2 : Int) (v3 : Int) (v4 : Int) (v5 : Int) (M : xM), xZ oJ O (d + 1) 101 17 [(0, .ref v0), (1, .int (yw v1)), (2, .int (yw v2)), (3, .int (yw v3)), (4, .int (yw v4)), (5, .int (yw v5))] [] M (f_Rule_placeInSet_17 O f n v0 v1 v2 v3 v4 v5 M) := by
  intro n
  induction n with
  | zero =>
    intro v0 v1 v2 v3 v4 v5 M
    exact xZ.no
  | succ n ih =>
    intro v0 v1 v2 v3 v4 v5 M
    unfold f_Rule_placeInSet_17
    refine xZ.adv (me := xm101) hP_101 4 (pc' := 23) (lv' := [(0, .ref v0), (1, .int (yw v1)), (2, .int (yw v2)), (3, .int (yw v3)), (4, .int (yw v4)), (5, .int (yw v5))]) (st' := [.int ((yw v2) - (yw v2) / (7 : Int32) * (7 : Int32)), .int (yw v5)]) rfl ?_
    refine xZ.eqs (lv2 := [(0, .ref v0), (1, .int (yw v1)), (2, .int (yw v2)), (3, .int (yw v3)), (4, .int (yw v4)), (5, .int (yw v5))]) (st2 := [.int (yw (v2 - (jdiv v2 7) * 7)), .int (yw v5)]) rfl (by simp only [yl_lit, yL_lit, yw_add, yw_sub, yw_mul, yw_neg, yl_add, yl_sub, yl_mul, cj_and, cj_or, cj_xor, cj_shl, cj_shr, cj_ushr, cj_div, cj_i2c, cj_i2b, cj_dc, ck_and, ck_or, ck_xor, ck_shl, ck_shr, ck_ushr, ck_i2l, ck_l2i, ck_cmp]) ?_
    refine xZ.jc_gt (me := xm101) hP_101 rfl (fun h1 => ?_) (fun h1 => ?_)
    · skip
      refine xZ.adv (me := xm101) hP_101 1 (pc' := 57) (lv' := [(0, .ref v0), (1, .int (yw v1)), (2, .int (yw v2)), (3, .int (yw v3)), (4, .int (yw v4)), (5, .int (yw v5))]) (st' := [.int (yw v4)]) rfl ?_
      exact xZ.jreti (me := xm101) hP_101 rfl rfl
    · skip
      refine xZ.adv (me := xm101) hP_101 1 (pc' := 27) (lv' := [(0, .ref v0), (1, .int (yw v1)), (2, .int (yw v2)), (3, .int (yw v3)), (4, .int (yw v4)), (5, .int (yw v5))]) (st' := [.ref v0]) rfl ?_
      refine xZ.k_gJ (me := xm101) hP_101 rfl (fun x1 => ?_)
      refine xZ.adv (me := xm101) hP_101 5 (pc' := 36) (lv' := [(0, .ref v0), (1, .int (yw v1)), (2, .int (yw v2)), (3, .int (yw v3)), (4, .int (yw v4)), (5, .int (yw v5))]) (st' := [.int ((yw v1) + ((yw v3) * (yw v5))), .int (yw x1)]) rfl ?_
      refine xZ.eqs (lv2 := [(0, .ref v0), (1, .int (yw v1)), (2, .int (yw v2)), (3, .int (yw v3)), (4, .int (yw v4)), (5, .int (yw v5))]) (st2 := [.int (yw (v1 + (v3 * v5))), .int (yw x1)]) rfl (by simp only [yl_lit, yL_lit, yw_add, yw_sub, yw_mul, yw_neg, yl_add, yl_sub, yl_mul, cj_and, cj_or, cj_xor, cj_shl, cj_shr, cj_ushr, cj_div, cj_i2c, cj_i2b, cj_dc, ck_and, ck_or, ck_xor, ck_shl, ck_shr, ck_ushr, ck_i2l, ck_l2i, ck_cmp]) ?_
      refine xZ.calls (κ := oJ) (av := [.int (yw (v1 + (v3 * v5)))]) (rest := [.int (yw x1)]) (st' := fun x2 => [.int (yw x2), .int (yw x1)]) (me := xm101) hP_101 rfl rfl rfl (Nat.le_of_ble_eq_true rfl) (by decide) hP_49 (Nat.le_of_ble_eq_true rfl) (fun _ => rfl) (k_f_Days_weekdayOf O f (d + 0) (v1 + (v3 * v5)) M) (fun x2 M1 => ?_)
      refine xZ.adv (me := xm101) hP_101 4 (pc' := 43) (lv' := [(0, .ref v0), (1, .int (yw v1)), (2, .int (yw v2)), (3, .int (yw v3)), (4, .int (yw v4)), (5, .int (yw v5))]) (st' := [.int (1 : Int32), .int (((yw x1) >>> ((yw x2) &&& 31)) &&& (1 : Int32))]) rfl ?_
      refine xZ.eqs (lv2 := [(0, .ref v0), (1, .int (yw v1)), (2, .int (yw v2)), (3, .int (yw v3)), (4, .int (yw v4)), (5, .int (yw v5))]) (st2 := [.int (yw 1), .int (yw (jand (jshr x1 (jand x2 31)) 1))]) rfl (by simp only [yl_lit, yL_lit, yw_add, yw_sub, yw_mul, yw_neg, yl_add, yl_sub, yl_mul, cj_and, cj_or, cj_xor, cj_shl, cj_shr, cj_ushr, cj_div, cj_i2c, cj_i2b, cj_dc, ck_and, ck_or, ck_xor, ck_shl, ck_shr, ck_ushr, ck_i2l, ck_l2i, ck_cmp]) ?_
      refine xZ.jc_ne (me := xm101) hP_101 rfl (fun h2 => ?_) (fun h2 => ?_)
      · skip
        refine xZ.adv (me := xm101) hP_101 3 (pc' := 17) (lv' := [(5, .int ((yw v5) + (1 : Int32))), (4, .int ((yw v4) + (1 : Int32))), (0, .ref v0), (1, .int (yw v1)), (2, .int (yw v2)), (3, .int (yw v3))]) (st' := []) rfl ?_
        refine xZ.eqs (lv2 := [(5, .int (yw (v5 + 1))), (4, .int (yw (v4 + 1))), (0, .ref v0), (1, .int (yw v1)), (2, .int (yw v2)), (3, .int (yw v3))]) (st2 := []) (by simp only [yl_lit, yL_lit, yw_add, yw_sub, yw_mul, yw_neg, yl_add, yl_sub, yl_mul, cj_and, cj_or, cj_xor, cj_shl, cj_shr, cj_ushr, cj_div, cj_i2c, cj_i2b, cj_dc, ck_and, ck_or, ck_xor, ck_shl, ck_shr, ck_ushr, ck_i2l, ck_l2i, ck_cmp]) rfl ?_
        exact xZ.sub (xsc (.tail _ (.tail _ (.head _))) (xsc (.tail _ (.tail _ (.tail _ (.head _)))) (xsc (.tail _ (.tail _ (.tail _ (.tail _ (.head _))))) (xsc (.tail _ (.tail _ (.tail _ (.tail _ (.tail _ (.head _)))))) (xsc (.tail _ (.head _)) (xsc (.head _) xsn)))))) (show ([5, 4, 0, 1, 2, 3] : List Nat).Nodup from by decide) (ih v0 v1 v2 v3 (v4 + 1) (v5 + 1) M1)
      · skip
        refine xZ.adv (me := xm101) hP_101 2 (pc' := 17) (lv' := [(5, .int ((yw v5) + (1 : Int32))), (0, .ref v0), (1, .int (yw v1)), (2, .int (yw v2)), (3, .int (yw v3)), (4, .int (yw v4))]) (st' := []) rfl ?_
        refine xZ.eqs (lv2 := [(5, .int (yw (v5 + 1))), (0, .ref v0), (1, .int (yw v1)), (2, .int (yw v2)), (3, .int (yw v3)), (4, .int (yw v4))]) (st2 := []) (by simp only [yl_lit, yL_lit, yw_add, yw_sub, yw_mul, yw_neg, yl_add, yl_sub, yl_mul, cj_and, cj_or, cj_xor, cj_shl, cj_shr, cj_ushr, cj_div, cj_i2c, cj_i2b, cj_dc, ck_and, ck_or, ck_xor, ck_shl, ck_shr, ck_ushr, ck_i2l, ck_l2i, ck_cmp]) rfl ?_
        exact xZ.sub (xsc (.tail _ (.head _)) (xsc (.tail _ (.tail _ (.head _))) (xsc (.tail _ (.tail _ (.tail _ (.head _)))) (xsc (.tail _ (.tail _ (.tail _ (.tail _ (.head _))))) (xsc (.tail _ (.tail _ (.tail _ (.tail _ (.tail _ (.head _)))))) (xsc (.head _) xsn)))))) (show ([5, 0, 1, 2, 3, 4] : List Nat).Nodup from by decide) (ih v0 v1 v2 v3 v4 (v5 + 1) M1)
def f_Rule_placeInSet (O : Nat → Option va_E) (f : Nat) (v0 : Nat) (v1 : Int) (v2 : Int) (v3 : Int) (M : xM) : Option (Int × xM) :=
  (gJ O M v0 9 3).bind fun x1 =>
  xcl (f_Integer_bitCount O f x1 M) fun x2 M1 =>
  f_Rule_placeInSet_17 O f f v0 v1 v2 v3 ((jdiv v2 7) * x2) 0 M1
set_option maxRecDepth 20000 in
theorem k_f_Rule_placeInSet (O : Nat → Option va_E) (f d : Nat) (v0 : Nat) (v1 : Int) (v2 : Int) (v3 : Int) (M : xM) : xZ oJ O (d + 1) 101 0 [(0, .ref v0), (1, .int (yw v1)), (2, .int (yw v2)), (3, .int (yw v3))] [] M (f_Rule_placeInSet O f v0 v1 v2 v3 M) := by
  unfold f_Rule_placeInSet
  refine xZ.adv (me := xm101) hP_101 4 (pc' := 5) (lv' := [(0, .ref v0), (1, .int (yw v1)), (2, .int (yw v2)), (3, .int (yw v3))]) (st' := [.ref v0, .int ((yw v2) / (7 : Int32))]) rfl ?_
  refine xZ.eqs (lv2 := [(0, .ref v0), (1, .int (yw v1)), (2, .int (yw v2)), (3, .int (yw v3))]) (st2 := [.ref v0, .int (yw (jdiv v2 7))]) rfl (by simp only [yl_lit, yL_lit, yw_add, yw_sub, yw_mul, yw_neg, yl_add, yl_sub, yl_mul, cj_and, cj_or, cj_xor, cj_shl, cj_shr, cj_ushr, cj_div, cj_i2c, cj_i2b, cj_dc, ck_and, ck_or, ck_xor, ck_shl, ck_shr, ck_ushr, ck_i2l, ck_l2i, ck_cmp]) ?_
  refine xZ.k_gJ (me := xm101) hP_101 rfl (fun x1 => ?_)
  refine xZ.calls (κ := oJ) (av := [.int (yw x1)]) (rest := [.int (yw (jdiv v2 7))]) (st' := fun x2 => [.int (yw x2), .int (yw (jdiv v2 7))]) (me := xm101) hP_101 rfl rfl rfl (Nat.le_of_ble_eq_true rfl) (by decide) hP_252 (Nat.le_of_ble_eq_true rfl) (fun _ => rfl) (k_f_Integer_bitCount O f (d + 0) x1 M) (fun x2 M1 => ?_)
  refine xZ.adv (me := xm101) hP_101 4 (pc' := 17) (lv' := [(5, .int (0 : Int32)), (4, .int ((yw (jdiv v2 7)) * (yw x2))), (0, .ref v0), (1, .int (yw v1)), (2, .int (yw v2)), (3, .int (yw v3))]) (st' := []) rfl ?_
  refine xZ.eqs (lv2 := [(5, .int (yw 0)), (4, .int (yw ((jdiv v2 7) * x2))), (0, .ref v0), (1, .int (yw v1)), (2, .int (yw v2)), (3, .int (yw v3))]) (st2 := []) (by simp only [yl_lit, yL_lit, yw_add, yw_sub, yw_mul, yw_neg, yl_add, yl_sub, yl_mul, cj_and, cj_or, cj_xor, cj_shl, cj_shr, cj_ushr, cj_div, cj_i2c, cj_i2b, cj_dc, ck_and, ck_or, ck_xor, ck_shl, ck_shr, ck_ushr, ck_i2l, ck_l2i, ck_cmp]) rfl ?_
  exact xZ.sub (xsc (.tail _ (.tail _ (.head _))) (xsc (.tail _ (.tail _ (.tail _ (.head _)))) (xsc (.tail _ (.tail _ (.tail _ (.tail _ (.head _))))) (xsc (.tail _ (.tail _ (.tail _ (.tail _ (.tail _ (.head _)))))) (xsc (.tail _ (.head _)) (xsc (.head _) xsn)))))) (show ([5, 4, 0, 1, 2, 3] : List Nat).Nodup from by decide) (k_f_Rule_placeInSet_17 O f d f v0 v1 v2 v3 ((jdiv v2 7) * x2) 0 M1)
def f_Rule_holds_85 (O : Nat → Option va_E) (f : Nat) (v0 : Nat) (v1 : Int) (s0 : Int) (M : xM) : Option (Int × xM) :=
  (gJ O M v0 9 1).bind fun x1 =>
  if yw x1 = yw 2 then (
    if yw s0 = yw 0 then (
      some (0, M)
    ) else
    xcl (f_Days_weekOf O f v1 M) fun x2 M1 =>
    (gJ O M1 v0 9 0).bind fun x3 =>
    xcl (f_Days_weekOf O f x3 M1) fun x4 M2 =>
    (gJ O M2 v0 9 2).bind fun x5 =>
    if yw x5 = yw 0 then none else xlet ((x2 - x4) - (jdiv (x2 - x4) x5) * x5) fun x6 =>
    if yw x6 = yw 0 then (
      some (1, M2)
    ) else
    some (0, M2)
  ) else
  xcl (f_Days_monthOf O f v1 M) fun x7 M3 =>
  (gJ O M3 v0 9 0).bind fun x8 =>
  xcl (f_Days_monthOf O f x8 M3) fun x9 M4 =>
  (isO O M4 v0 9).bind fun _ =>
  xcl (f_Rule_monthStep O f v0 M4) fun x10 M5 =>
  if yw x10 < yw 1 then (
    some (0, M5)
  ) else
  if yw x10 = yw 0 then none else xlet ((x7 - x9) - (jdiv (x7 - x9) x10) * x10) fun x11 =>
  if yw x11 = yw 0 then (
    xcl (f_Days_monthBegin O f x7 M5) fun x12 M6 =>
    xcl (f_Days_monthLength O f x7 M6) fun x13 M7 =>
    (gJ O M7 v0 9 1).bind fun x14 =>
    if yw x14 = yw 5 then (
      (gJ O M7 v0 9 0).bind fun x15 =>
      xcl (f_Days_monthBegin O f x9 M7) fun x16 M8 =>
      if yw (v1 - x12) = yw (x15 - x16) then (
        some (1, M8)
      ) else
      some (0, M8)
    ) else
    (gJ O M7 v0 9 1).bind fun x17 =>
    if yw x17 = yw 3 then (
      (gJ O M7 v0 9 4).bind fun x18 =>
      if yw x18 ≤ yw 0 then (
        (gJ O M7 v0 9 4).bind fun x19 =>
        if yw (((x13 - 1) - (v1 - x12)) + 1) = yw (-x19) then (
          some (1, M7)
        ) else
        some (0, M7)
      ) else
      (gJ O M7 v0 9 4).bind fun x20 =>
      if yw ((v1 - x12) + 1) = yw x20 then (
        some (1, M7)
      ) else
      some (0, M7)
    ) else
    if yw s0 = yw 0 then (
      some (0, M7)
    ) else
    (gJ O M7 v0 9 4).bind fun x21 =>
    if yw x21 ≤ yw 0 then (
      (isO O M7 v0 9).bind fun _ =>
      xcl (f_Rule_placeInSet O f v0 v1 ((x13 - 1) - (v1 - x12)) 1 M7) fun x22 M9 =>
      (gJ O M9 v0 9 4).bind fun x23 =>
      if yw x22 = yw (-x23) then (
        some (1, M9)
      ) else
      some (0, M9)
    ) else
    (isO O M7 v0 9).bind fun _ =>
    xcl (f_Rule_placeInSet O f v0 v1 (v1 - x12) (-1) M7) fun x24 M10 =>
    (gJ O M10 v0 9 4).bind fun x25 =>
    if yw x24 = yw x25 then (
      some (1, M10)
    ) else
    some (0, M10)
  ) else
  some (0, M5)
set_option maxRecDepth 20000 in
theorem k_f_Rule_holds_85 (O : Nat → Option va_E) (f d : Nat) (v0 : Nat) (v1 : Int) (s0 : Int) (M : xM) : xZ oJ O (d + 2) 100 85 [(0, .ref v0), (1, .int (yw v1))] [.int (yw s0)] M (f_Rule_holds_85 O f v0 v1 s0 M) := by
  unfold f_Rule_holds_85
  refine xZ.adv (me := xm100) hP_100 2 (pc' := 87) (lv' := [(2, .int (yw s0)), (0, .ref v0), (1, .int (yw v1))]) (st' := [.ref v0]) rfl ?_
  refine xZ.k_gJ (me := xm100) hP_100 rfl (fun x1 => ?_)
  refine xZ.adv (me := xm100) hP_100 1 (pc' := 91) (lv' := [(2, .int (yw s0)), (0, .ref v0), (1, .int (yw v1))]) (st' := [.int (2 : Int32), .int (yw x1)]) rfl ?_
  refine xZ.eqs (lv2 := [(2, .int (yw s0)), (0, .ref v0), (1, .int (yw v1))]) (st2 := [.int (yw 2), .int (yw x1)]) rfl (by simp only [yl_lit, yL_lit, yw_add, yw_sub, yw_mul, yw_neg, yl_add, yl_sub, yl_mul, cj_and, cj_or, cj_xor, cj_shl, cj_shr, cj_ushr, cj_div, cj_i2c, cj_i2b, cj_dc, ck_and, ck_or, ck_xor, ck_shl, ck_shr, ck_ushr, ck_i2l, ck_l2i, ck_cmp]) ?_
  refine xZ.jc_ne (me := xm100) hP_100 rfl (fun h1 => ?_) (fun h1 => ?_)
  · skip
    refine xZ.adv (me := xm100) hP_100 1 (pc' := 95) (lv' := [(2, .int (yw s0)), (0, .ref v0), (1, .int (yw v1))]) (st' := [.int (yw s0)]) rfl ?_
    refine xZ.jf_eq (me := xm100) hP_100 rfl (fun h2 => ?_) (fun h2 => ?_)
    · skip
      refine xZ.adv (me := xm100) hP_100 1 (pc' := 123) (lv' := [(2, .int (yw s0)), (0, .ref v0), (1, .int (yw v1))]) (st' := [.int (0 : Int32)]) rfl ?_
      refine xZ.eqs (lv2 := [(2, .int (yw s0)), (0, .ref v0), (1, .int (yw v1))]) (st2 := [.int (yw 0)]) rfl (by simp only [yl_lit, yL_lit, yw_add, yw_sub, yw_mul, yw_neg, yl_add, yl_sub, yl_mul, cj_and, cj_or, cj_xor, cj_shl, cj_shr, cj_ushr, cj_div, cj_i2c, cj_i2b, cj_dc, ck_and, ck_or, ck_xor, ck_shl, ck_shr, ck_ushr, ck_i2l, ck_l2i, ck_cmp]) ?_
      exact xZ.jrete (me := xm100) hP_100 rfl rfl rfl
    · skip
      refine xZ.adv (me := xm100) hP_100 1 (pc' := 99) (lv' := [(2, .int (yw s0)), (0, .ref v0), (1, .int (yw v1))]) (st' := [.int (yw v1)]) rfl ?_
      refine xZ.calls (κ := oJ) (av := [.int (yw v1)]) (rest := []) (st' := fun x2 => [.int (yw x2)]) (me := xm100) hP_100 rfl rfl rfl (Nat.le_of_ble_eq_true rfl) (by decide) hP_47 (Nat.le_of_ble_eq_true rfl) (fun _ => rfl) (k_f_Days_weekOf O f (d + 1) v1 M) (fun x2 M1 => ?_)
      refine xZ.adv (me := xm100) hP_100 1 (pc' := 103) (lv' := [(2, .int (yw s0)), (0, .ref v0), (1, .int (yw v1))]) (st' := [.ref v0, .int (yw x2)]) rfl ?_
      refine xZ.k_gJ (me := xm100) hP_100 rfl (fun x3 => ?_)
      refine xZ.calls (κ := oJ) (av := [.int (yw x3)]) (rest := [.int (yw x2)]) (st' := fun x4 => [.int (yw x4), .int (yw x2)]) (me := xm100) hP_100 rfl rfl rfl (Nat.le_of_ble_eq_true rfl) (by decide) hP_47 (Nat.le_of_ble_eq_true rfl) (fun _ => rfl) (k_f_Days_weekOf O f (d + 1) x3 M1) (fun x4 M2 => ?_)
      refine xZ.adv (me := xm100) hP_100 2 (pc' := 111) (lv' := [(2, .int (yw s0)), (0, .ref v0), (1, .int (yw v1))]) (st' := [.ref v0, .int ((yw x2) - (yw x4))]) rfl ?_
      refine xZ.eqs (lv2 := [(2, .int (yw s0)), (0, .ref v0), (1, .int (yw v1))]) (st2 := [.ref v0, .int (yw (x2 - x4))]) rfl (by simp only [yl_lit, yL_lit, yw_add, yw_sub, yw_mul, yw_neg, yl_add, yl_sub, yl_mul, cj_and, cj_or, cj_xor, cj_shl, cj_shr, cj_ushr, cj_div, cj_i2c, cj_i2b, cj_dc, ck_and, ck_or, ck_xor, ck_shl, ck_shr, ck_ushr, ck_i2l, ck_l2i, ck_cmp]) ?_
      refine xZ.k_gJ (me := xm100) hP_100 rfl (fun x5 => ?_)
      refine xZ.k_jrem (me := xm100) hP_100 rfl (fun x6 => ?_)
      refine xZ.jf_ne (me := xm100) hP_100 rfl (fun h3 => ?_) (fun h3 => ?_)
      · skip
        refine xZ.adv (me := xm100) hP_100 2 (pc' := 123) (lv' := [(2, .int (yw s0)), (0, .ref v0), (1, .int (yw v1))]) (st' := [.int (1 : Int32)]) rfl ?_
        refine xZ.eqs (lv2 := [(2, .int (yw s0)), (0, .ref v0), (1, .int (yw v1))]) (st2 := [.int (yw 1)]) rfl (by simp only [yl_lit, yL_lit, yw_add, yw_sub, yw_mul, yw_neg, yl_add, yl_sub, yl_mul, cj_and, cj_or, cj_xor, cj_shl, cj_shr, cj_ushr, cj_div, cj_i2c, cj_i2b, cj_dc, ck_and, ck_or, ck_xor, ck_shl, ck_shr, ck_ushr, ck_i2l, ck_l2i, ck_cmp]) ?_
        exact xZ.jrete (me := xm100) hP_100 rfl rfl rfl
      · skip
        refine xZ.adv (me := xm100) hP_100 1 (pc' := 123) (lv' := [(2, .int (yw s0)), (0, .ref v0), (1, .int (yw v1))]) (st' := [.int (0 : Int32)]) rfl ?_
        refine xZ.eqs (lv2 := [(2, .int (yw s0)), (0, .ref v0), (1, .int (yw v1))]) (st2 := [.int (yw 0)]) rfl (by simp only [yl_lit, yL_lit, yw_add, yw_sub, yw_mul, yw_neg, yl_add, yl_sub, yl_mul, cj_and, cj_or, cj_xor, cj_shl, cj_shr, cj_ushr, cj_div, cj_i2c, cj_i2b, cj_dc, ck_and, ck_or, ck_xor, ck_shl, ck_shr, ck_ushr, ck_i2l, ck_l2i, ck_cmp]) ?_
        exact xZ.jrete (me := xm100) hP_100 rfl rfl rfl
  · skip
    refine xZ.adv (me := xm100) hP_100 1 (pc' := 125) (lv' := [(2, .int (yw s0)), (0, .ref v0), (1, .int (yw v1))]) (st' := [.int (yw v1)]) rfl ?_
    refine xZ.calls (κ := oJ) (av := [.int (yw v1)]) (rest := []) (st' := fun x7 => [.int (yw x7)]) (me := xm100) hP_100 rfl rfl rfl (Nat.le_of_ble_eq_true rfl) (by decide) hP_52 (Nat.le_of_ble_eq_true rfl) (fun _ => rfl) (k_f_Days_monthOf O f (d + 1) v1 M) (fun x7 M3 => ?_)
    refine xZ.adv (me := xm100) hP_100 2 (pc' := 130) (lv' := [(3, .int (yw x7)), (2, .int (yw s0)), (0, .ref v0), (1, .int (yw v1))]) (st' := [.ref v0]) rfl ?_
    refine xZ.k_gJ (me := xm100) hP_100 rfl (fun x8 => ?_)
    refine xZ.calls (κ := oJ) (av := [.int (yw x8)]) (rest := []) (st' := fun x9 => [.int (yw x9)]) (me := xm100) hP_100 rfl rfl rfl (Nat.le_of_ble_eq_true rfl) (by decide) hP_52 (Nat.le_of_ble_eq_true rfl) (fun _ => rfl) (k_f_Days_monthOf O f (d + 1) x8 M3) (fun x9 M4 => ?_)
    refine xZ.adv (me := xm100) hP_100 2 (pc' := 139) (lv' := [(4, .int (yw x9)), (3, .int (yw x7)), (2, .int (yw s0)), (0, .ref v0), (1, .int (yw v1))]) (st' := [.ref v0]) rfl ?_
    refine xZ.callv (κ := oJ) (av := []) (rest := []) (st' := fun x10 => [.int (yw x10)]) (k0 := v0) (me := xm100) hP_100 rfl (Or.inl rfl) ⟨rfl, by decide⟩ rfl rfl (Nat.le_of_ble_eq_true rfl) (by decide) hP_51 (Nat.le_of_ble_eq_true rfl) (fun _ => rfl) (k_f_Rule_monthStep O f (d + 0) v0 M4) (fun x10 M5 => ?_)
    refine xZ.adv (me := xm100) hP_100 3 (pc' := 147) (lv' := [(5, .int (yw x10)), (4, .int (yw x9)), (3, .int (yw x7)), (2, .int (yw s0)), (0, .ref v0), (1, .int (yw v1))]) (st' := [.int (1 : Int32), .int (yw x10)]) rfl ?_
    refine xZ.eqs (lv2 := [(5, .int (yw x10)), (4, .int (yw x9)), (3, .int (yw x7)), (2, .int (yw s0)), (0, .ref v0), (1, .int (yw v1))]) (st2 := [.int (yw 1), .int (yw x10)]) rfl (by simp only [yl_lit, yL_lit, yw_add, yw_sub, yw_mul, yw_neg, yl_add, yl_sub, yl_mul, cj_and, cj_or, cj_xor, cj_shl, cj_shr, cj_ushr, cj_div, cj_i2c, cj_i2b, cj_dc, ck_and, ck_or, ck_xor, ck_shl, ck_shr, ck_ushr, ck_i2l, ck_l2i, ck_cmp]) ?_
    refine xZ.jc_lt (me := xm100) hP_100 rfl (fun h4 => ?_) (fun h4 => ?_)
    · skip
      refine xZ.adv (me := xm100) hP_100 1 (pc' := 161) (lv' := [(5, .int (yw x10)), (4, .int (yw x9)), (3, .int (yw x7)), (2, .int (yw s0)), (0, .ref v0), (1, .int (yw v1))]) (st' := [.int (0 : Int32)]) rfl ?_
      refine xZ.eqs (lv2 := [(5, .int (yw x10)), (4, .int (yw x9)), (3, .int (yw x7)), (2, .int (yw s0)), (0, .ref v0), (1, .int (yw v1))]) (st2 := [.int (yw 0)]) rfl (by simp only [yl_lit, yL_lit, yw_add, yw_sub, yw_mul, yw_neg, yl_add, yl_sub, yl_mul, cj_and, cj_or, cj_xor, cj_shl, cj_shr, cj_ushr, cj_div, cj_i2c, cj_i2b, cj_dc, ck_and, ck_or, ck_xor, ck_shl, ck_shr, ck_ushr, ck_i2l, ck_l2i, ck_cmp]) ?_
      exact xZ.jrete (me := xm100) hP_100 rfl rfl rfl
    · skip
      refine xZ.adv (me := xm100) hP_100 4 (pc' := 156) (lv' := [(5, .int (yw x10)), (4, .int (yw x9)), (3, .int (yw x7)), (2, .int (yw s0)), (0, .ref v0), (1, .int (yw v1))]) (st' := [.int (yw x10), .int ((yw x7) - (yw x9))]) rfl ?_
      refine xZ.eqs (lv2 := [(5, .int (yw x10)), (4, .int (yw x9)), (3, .int (yw x7)), (2, .int (yw s0)), (0, .ref v0), (1, .int (yw v1))]) (st2 := [.int (yw x10), .int (yw (x7 - x9))]) rfl (by simp only [yl_lit, yL_lit, yw_add, yw_sub, yw_mul, yw_neg, yl_add, yl_sub, yl_mul, cj_and, cj_or, cj_xor, cj_shl, cj_shr, cj_ushr, cj_div, cj_i2c, cj_i2b, cj_dc, ck_and, ck_or, ck_xor, ck_shl, ck_shr, ck_ushr, ck_i2l, ck_l2i, ck_cmp]) ?_
      refine xZ.k_jrem (me := xm100) hP_100 rfl (fun x11 => ?_)
      refine xZ.jf_eq (me := xm100) hP_100 rfl (fun h5 => ?_) (fun h5 => ?_)
      · skip
        refine xZ.adv (me := xm100) hP_100 2 (pc' := 164) (lv' := [(5, .int (yw x10)), (4, .int (yw x9)), (3, .int (yw x7)), (2, .int (yw s0)), (0, .ref v0), (1, .int (yw v1))]) (st' := [.int (yw x7), .int (yw v1)]) rfl ?_
        refine xZ.calls (κ := oJ) (av := [.int (yw x7)]) (rest := [.int (yw v1)]) (st' := fun x12 => [.int (yw x12), .int (yw v1)]) (me := xm100) hP_100 rfl rfl rfl (Nat.le_of_ble_eq_true rfl) (by decide) hP_54 (Nat.le_of_ble_eq_true rfl) (fun _ => rfl) (k_f_Days_monthBegin O f (d + 1) x7 M5) (fun x12 M6 => ?_)
        refine xZ.adv (me := xm100) hP_100 3 (pc' := 171) (lv' := [(6, .int ((yw v1) - (yw x12))), (5, .int (yw x10)), (4, .int (yw x9)), (3, .int (yw x7)), (2, .int (yw s0)), (0, .ref v0), (1, .int (yw v1))]) (st' := [.int (yw x7)]) rfl ?_
        refine xZ.eqs (lv2 := [(6, .int (yw (v1 - x12))), (5, .int (yw x10)), (4, .int (yw x9)), (3, .int (yw x7)), (2, .int (yw s0)), (0, .ref v0), (1, .int (yw v1))]) (st2 := [.int (yw x7)]) (by simp only [yl_lit, yL_lit, yw_add, yw_sub, yw_mul, yw_neg, yl_add, yl_sub, yl_mul, cj_and, cj_or, cj_xor, cj_shl, cj_shr, cj_ushr, cj_div, cj_i2c, cj_i2b, cj_dc, ck_and, ck_or, ck_xor, ck_shl, ck_shr, ck_ushr, ck_i2l, ck_l2i, ck_cmp]) rfl ?_
        refine xZ.calls (κ := oJ) (av := [.int (yw x7)]) (rest := []) (st' := fun x13 => [.int (yw x13)]) (me := xm100) hP_100 rfl rfl rfl (Nat.le_of_ble_eq_true rfl) (by decide) hP_55 (Nat.le_of_ble_eq_true rfl) (fun _ => rfl) (k_f_Days_monthLength O f (d + 1) x7 M6) (fun x13 M7 => ?_)
        refine xZ.adv (me := xm100) hP_100 6 (pc' := 182) (lv' := [(7, .int (((yw x13) - (1 : Int32)) - (yw (v1 - x12)))), (6, .int (yw (v1 - x12))), (5, .int (yw x10)), (4, .int (yw x9)), (3, .int (yw x7)), (2, .int (yw s0)), (0, .ref v0), (1, .int (yw v1))]) (st' := [.ref v0]) rfl ?_
        refine xZ.eqs (lv2 := [(7, .int (yw ((x13 - 1) - (v1 - x12)))), (6, .int (yw (v1 - x12))), (5, .int (yw x10)), (4, .int (yw x9)), (3, .int (yw x7)), (2, .int (yw s0)), (0, .ref v0), (1, .int (yw v1))]) (st2 := [.ref v0]) (by simp only [yl_lit, yL_lit, yw_add, yw_sub, yw_mul, yw_neg, yl_add, yl_sub, yl_mul, cj_and, cj_or, cj_xor, cj_shl, cj_shr, cj_ushr, cj_div, cj_i2c, cj_i2b, cj_dc, ck_and, ck_or, ck_xor, ck_shl, ck_shr, ck_ushr, ck_i2l, ck_l2i, ck_cmp]) rfl ?_
        refine xZ.k_gJ (me := xm100) hP_100 rfl (fun x14 => ?_)
        refine xZ.adv (me := xm100) hP_100 1 (pc' := 186) (lv' := [(7, .int (yw ((x13 - 1) - (v1 - x12)))), (6, .int (yw (v1 - x12))), (5, .int (yw x10)), (4, .int (yw x9)), (3, .int (yw x7)), (2, .int (yw s0)), (0, .ref v0), (1, .int (yw v1))]) (st' := [.int (5 : Int32), .int (yw x14)]) rfl ?_
        refine xZ.eqs (lv2 := [(7, .int (yw ((x13 - 1) - (v1 - x12)))), (6, .int (yw (v1 - x12))), (5, .int (yw x10)), (4, .int (yw x9)), (3, .int (yw x7)), (2, .int (yw s0)), (0, .ref v0), (1, .int (yw v1))]) (st2 := [.int (yw 5), .int (yw x14)]) rfl (by simp only [yl_lit, yL_lit, yw_add, yw_sub, yw_mul, yw_neg, yl_add, yl_sub, yl_mul, cj_and, cj_or, cj_xor, cj_shl, cj_shr, cj_ushr, cj_div, cj_i2c, cj_i2b, cj_dc, ck_and, ck_or, ck_xor, ck_shl, ck_shr, ck_ushr, ck_i2l, ck_l2i, ck_cmp]) ?_
        refine xZ.jc_ne (me := xm100) hP_100 rfl (fun h6 => ?_) (fun h6 => ?_)
        · skip
          refine xZ.adv (me := xm100) hP_100 2 (pc' := 192) (lv' := [(7, .int (yw ((x13 - 1) - (v1 - x12)))), (6, .int (yw (v1 - x12))), (5, .int (yw x10)), (4, .int (yw x9)), (3, .int (yw x7)), (2, .int (yw s0)), (0, .ref v0), (1, .int (yw v1))]) (st' := [.ref v0, .int (yw (v1 - x12))]) rfl ?_
          refine xZ.k_gJ (me := xm100) hP_100 rfl (fun x15 => ?_)
          refine xZ.adv (me := xm100) hP_100 1 (pc' := 197) (lv' := [(7, .int (yw ((x13 - 1) - (v1 - x12)))), (6, .int (yw (v1 - x12))), (5, .int (yw x10)), (4, .int (yw x9)), (3, .int (yw x7)), (2, .int (yw s0)), (0, .ref v0), (1, .int (yw v1))]) (st' := [.int (yw x9), .int (yw x15), .int (yw (v1 - x12))]) rfl ?_
          refine xZ.calls (κ := oJ) (av := [.int (yw x9)]) (rest := [.int (yw x15), .int (yw (v1 - x12))]) (st' := fun x16 => [.int (yw x16), .int (yw x15), .int (yw (v1 - x12))]) (me := xm100) hP_100 rfl rfl rfl (Nat.le_of_ble_eq_true rfl) (by decide) hP_54 (Nat.le_of_ble_eq_true rfl) (fun _ => rfl) (k_f_Days_monthBegin O f (d + 1) x9 M7) (fun x16 M8 => ?_)
          refine xZ.adv (me := xm100) hP_100 1 (pc' := 201) (lv' := [(7, .int (yw ((x13 - 1) - (v1 - x12)))), (6, .int (yw (v1 - x12))), (5, .int (yw x10)), (4, .int (yw x9)), (3, .int (yw x7)), (2, .int (yw s0)), (0, .ref v0), (1, .int (yw v1))]) (st' := [.int ((yw x15) - (yw x16)), .int (yw (v1 - x12))]) rfl ?_
          refine xZ.eqs (lv2 := [(7, .int (yw ((x13 - 1) - (v1 - x12)))), (6, .int (yw (v1 - x12))), (5, .int (yw x10)), (4, .int (yw x9)), (3, .int (yw x7)), (2, .int (yw s0)), (0, .ref v0), (1, .int (yw v1))]) (st2 := [.int (yw (x15 - x16)), .int (yw (v1 - x12))]) rfl (by simp only [yl_lit, yL_lit, yw_add, yw_sub, yw_mul, yw_neg, yl_add, yl_sub, yl_mul, cj_and, cj_or, cj_xor, cj_shl, cj_shr, cj_ushr, cj_div, cj_i2c, cj_i2b, cj_dc, ck_and, ck_or, ck_xor, ck_shl, ck_shr, ck_ushr, ck_i2l, ck_l2i, ck_cmp]) ?_
          refine xZ.jc_ne (me := xm100) hP_100 rfl (fun h7 => ?_) (fun h7 => ?_)
          · skip
            refine xZ.adv (me := xm100) hP_100 2 (pc' := 209) (lv' := [(7, .int (yw ((x13 - 1) - (v1 - x12)))), (6, .int (yw (v1 - x12))), (5, .int (yw x10)), (4, .int (yw x9)), (3, .int (yw x7)), (2, .int (yw s0)), (0, .ref v0), (1, .int (yw v1))]) (st' := [.int (1 : Int32)]) rfl ?_
            refine xZ.eqs (lv2 := [(7, .int (yw ((x13 - 1) - (v1 - x12)))), (6, .int (yw (v1 - x12))), (5, .int (yw x10)), (4, .int (yw x9)), (3, .int (yw x7)), (2, .int (yw s0)), (0, .ref v0), (1, .int (yw v1))]) (st2 := [.int (yw 1)]) rfl (by simp only [yl_lit, yL_lit, yw_add, yw_sub, yw_mul, yw_neg, yl_add, yl_sub, yl_mul, cj_and, cj_or, cj_xor, cj_shl, cj_shr, cj_ushr, cj_div, cj_i2c, cj_i2b, cj_dc, ck_and, ck_or, ck_xor, ck_shl, ck_shr, ck_ushr, ck_i2l, ck_l2i, ck_cmp]) ?_
            exact xZ.jrete (me := xm100) hP_100 rfl rfl rfl
          · skip
            refine xZ.adv (me := xm100) hP_100 1 (pc' := 209) (lv' := [(7, .int (yw ((x13 - 1) - (v1 - x12)))), (6, .int (yw (v1 - x12))), (5, .int (yw x10)), (4, .int (yw x9)), (3, .int (yw x7)), (2, .int (yw s0)), (0, .ref v0), (1, .int (yw v1))]) (st' := [.int (0 : Int32)]) rfl ?_
            refine xZ.eqs (lv2 := [(7, .int (yw ((x13 - 1) - (v1 - x12)))), (6, .int (yw (v1 - x12))), (5, .int (yw x10)), (4, .int (yw x9)), (3, .int (yw x7)), (2, .int (yw s0)), (0, .ref v0), (1, .int (yw v1))]) (st2 := [.int (yw 0)]) rfl (by simp only [yl_lit, yL_lit, yw_add, yw_sub, yw_mul, yw_neg, yl_add, yl_sub, yl_mul, cj_and, cj_or, cj_xor, cj_shl, cj_shr, cj_ushr, cj_div, cj_i2c, cj_i2b, cj_dc, ck_and, ck_or, ck_xor, ck_shl, ck_shr, ck_ushr, ck_i2l, ck_l2i, ck_cmp]) ?_
            exact xZ.jrete (me := xm100) hP_100 rfl rfl rfl
        · skip
          refine xZ.adv (me := xm100) hP_100 1 (pc' := 211) (lv' := [(7, .int (yw ((x13 - 1) - (v1 - x12)))), (6, .int (yw (v1 - x12))), (5, .int (yw x10)), (4, .int (yw x9)), (3, .int (yw x7)), (2, .int (yw s0)), (0, .ref v0), (1, .int (yw v1))]) (st' := [.ref v0]) rfl ?_
          refine xZ.k_gJ (me := xm100) hP_100 rfl (fun x17 => ?_)
          refine xZ.adv (me := xm100) hP_100 1 (pc' := 215) (lv' := [(7, .int (yw ((x13 - 1) - (v1 - x12)))), (6, .int (yw (v1 - x12))), (5, .int (yw x10)), (4, .int (yw x9)), (3, .int (yw x7)), (2, .int (yw s0)), (0, .ref v0), (1, .int (yw v1))]) (st' := [.int (3 : Int32), .int (yw x17)]) rfl ?_
          refine xZ.eqs (lv2 := [(7, .int (yw ((x13 - 1) - (v1 - x12)))), (6, .int (yw (v1 - x12))), (5, .int (yw x10)), (4, .int (yw x9)), (3, .int (yw x7)), (2, .int (yw s0)), (0, .ref v0), (1, .int (yw v1))]) (st2 := [.int (yw 3), .int (yw x17)]) rfl (by simp only [yl_lit, yL_lit, yw_add, yw_sub, yw_mul, yw_neg, yl_add, yl_sub, yl_mul, cj_and, cj_or, cj_xor, cj_shl, cj_shr, cj_ushr, cj_div, cj_i2c, cj_i2b, cj_dc, ck_and, ck_or, ck_xor, ck_shl, ck_shr, ck_ushr, ck_i2l, ck_l2i, ck_cmp]) ?_
          refine xZ.jc_ne (me := xm100) hP_100 rfl (fun h8 => ?_) (fun h8 => ?_)
          · skip
            refine xZ.adv (me := xm100) hP_100 1 (pc' := 219) (lv' := [(7, .int (yw ((x13 - 1) - (v1 - x12)))), (6, .int (yw (v1 - x12))), (5, .int (yw x10)), (4, .int (yw x9)), (3, .int (yw x7)), (2, .int (yw s0)), (0, .ref v0), (1, .int (yw v1))]) (st' := [.ref v0]) rfl ?_
            refine xZ.k_gJ (me := xm100) hP_100 rfl (fun x18 => ?_)
            refine xZ.jf_le (me := xm100) hP_100 rfl (fun h9 => ?_) (fun h9 => ?_)
            · skip
              refine xZ.adv (me := xm100) hP_100 4 (pc' := 249) (lv' := [(7, .int (yw ((x13 - 1) - (v1 - x12)))), (6, .int (yw (v1 - x12))), (5, .int (yw x10)), (4, .int (yw x9)), (3, .int (yw x7)), (2, .int (yw s0)), (0, .ref v0), (1, .int (yw v1))]) (st' := [.ref v0, .int ((yw ((x13 - 1) - (v1 - x12))) + (1 : Int32))]) rfl ?_
              refine xZ.eqs (lv2 := [(7, .int (yw ((x13 - 1) - (v1 - x12)))), (6, .int (yw (v1 - x12))), (5, .int (yw x10)), (4, .int (yw x9)), (3, .int (yw x7)), (2, .int (yw s0)), (0, .ref v0), (1, .int (yw v1))]) (st2 := [.ref v0, .int (yw (((x13 - 1) - (v1 - x12)) + 1))]) rfl (by simp only [yl_lit, yL_lit, yw_add, yw_sub, yw_mul, yw_neg, yl_add, yl_sub, yl_mul, cj_and, cj_or, cj_xor, cj_shl, cj_shr, cj_ushr, cj_div, cj_i2c, cj_i2b, cj_dc, ck_and, ck_or, ck_xor, ck_shl, ck_shr, ck_ushr, ck_i2l, ck_l2i, ck_cmp]) ?_
              refine xZ.k_gJ (me := xm100) hP_100 rfl (fun x19 => ?_)
              refine xZ.adv (me := xm100) hP_100 1 (pc' := 253) (lv' := [(7, .int (yw ((x13 - 1) - (v1 - x12)))), (6, .int (yw (v1 - x12))), (5, .int (yw x10)), (4, .int (yw x9)), (3, .int (yw x7)), (2, .int (yw s0)), (0, .ref v0), (1, .int (yw v1))]) (st' := [.int (-(yw x19)), .int (yw (((x13 - 1) - (v1 - x12)) + 1))]) rfl ?_
              refine xZ.eqs (lv2 := [(7, .int (yw ((x13 - 1) - (v1 - x12)))), (6, .int (yw (v1 - x12))), (5, .int (yw x10)), (4, .int (yw x9)), (3, .int (yw x7)), (2, .int (yw s0)), (0, .ref v0), (1, .int (yw v1))]) (st2 := [.int (yw (-x19)), .int (yw (((x13 - 1) - (v1 - x12)) + 1))]) rfl (by simp only [yl_lit, yL_lit, yw_add, yw_sub, yw_mul, yw_neg, yl_add, yl_sub, yl_mul, cj_and, cj_or, cj_xor, cj_shl, cj_shr, cj_ushr, cj_div, cj_i2c, cj_i2b, cj_dc, ck_and, ck_or, ck_xor, ck_shl, ck_shr, ck_ushr, ck_i2l, ck_l2i, ck_cmp]) ?_
              refine xZ.jc_ne (me := xm100) hP_100 rfl (fun h10 => ?_) (fun h10 => ?_)
              · skip
                refine xZ.adv (me := xm100) hP_100 2 (pc' := 261) (lv' := [(7, .int (yw ((x13 - 1) - (v1 - x12)))), (6, .int (yw (v1 - x12))), (5, .int (yw x10)), (4, .int (yw x9)), (3, .int (yw x7)), (2, .int (yw s0)), (0, .ref v0), (1, .int (yw v1))]) (st' := [.int (1 : Int32)]) rfl ?_
                refine xZ.eqs (lv2 := [(7, .int (yw ((x13 - 1) - (v1 - x12)))), (6, .int (yw (v1 - x12))), (5, .int (yw x10)), (4, .int (yw x9)), (3, .int (yw x7)), (2, .int (yw s0)), (0, .ref v0), (1, .int (yw v1))]) (st2 := [.int (yw 1)]) rfl (by simp only [yl_lit, yL_lit, yw_add, yw_sub, yw_mul, yw_neg, yl_add, yl_sub, yl_mul, cj_and, cj_or, cj_xor, cj_shl, cj_shr, cj_ushr, cj_div, cj_i2c, cj_i2b, cj_dc, ck_and, ck_or, ck_xor, ck_shl, ck_shr, ck_ushr, ck_i2l, ck_l2i, ck_cmp]) ?_
                exact xZ.jrete (me := xm100) hP_100 rfl rfl rfl
              · skip
                refine xZ.adv (me := xm100) hP_100 1 (pc' := 261) (lv' := [(7, .int (yw ((x13 - 1) - (v1 - x12)))), (6, .int (yw (v1 - x12))), (5, .int (yw x10)), (4, .int (yw x9)), (3, .int (yw x7)), (2, .int (yw s0)), (0, .ref v0), (1, .int (yw v1))]) (st' := [.int (0 : Int32)]) rfl ?_
                refine xZ.eqs (lv2 := [(7, .int (yw ((x13 - 1) - (v1 - x12)))), (6, .int (yw (v1 - x12))), (5, .int (yw x10)), (4, .int (yw x9)), (3, .int (yw x7)), (2, .int (yw s0)), (0, .ref v0), (1, .int (yw v1))]) (st2 := [.int (yw 0)]) rfl (by simp only [yl_lit, yL_lit, yw_add, yw_sub, yw_mul, yw_neg, yl_add, yl_sub, yl_mul, cj_and, cj_or, cj_xor, cj_shl, cj_shr, cj_ushr, cj_div, cj_i2c, cj_i2b, cj_dc, ck_and, ck_or, ck_xor, ck_shl, ck_shr, ck_ushr, ck_i2l, ck_l2i, ck_cmp]) ?_
                exact xZ.jrete (me := xm100) hP_100 rfl rfl rfl
            · skip
              refine xZ.adv (me := xm100) hP_100 4 (pc' := 230) (lv' := [(7, .int (yw ((x13 - 1) - (v1 - x12)))), (6, .int (yw (v1 - x12))), (5, .int (yw x10)), (4, .int (yw x9)), (3, .int (yw x7)), (2, .int (yw s0)), (0, .ref v0), (1, .int (yw v1))]) (st' := [.ref v0, .int ((yw (v1 - x12)) + (1 : Int32))]) rfl ?_
              refine xZ.eqs (lv2 := [(7, .int (yw ((x13 - 1) - (v1 - x12)))), (6, .int (yw (v1 - x12))), (5, .int (yw x10)), (4, .int (yw x9)), (3, .int (yw x7)), (2, .int (yw s0)), (0, .ref v0), (1, .int (yw v1))]) (st2 := [.ref v0, .int (yw ((v1 - x12) + 1))]) rfl (by simp only [yl_lit, yL_lit, yw_add, yw_sub, yw_mul, yw_neg, yl_add, yl_sub, yl_mul, cj_and, cj_or, cj_xor, cj_shl, cj_shr, cj_ushr, cj_div, cj_i2c, cj_i2b, cj_dc, ck_and, ck_or, ck_xor, ck_shl, ck_shr, ck_ushr, ck_i2l, ck_l2i, ck_cmp]) ?_
              refine xZ.k_gJ (me := xm100) hP_100 rfl (fun x20 => ?_)
              refine xZ.jc_ne (me := xm100) hP_100 rfl (fun h11 => ?_) (fun h11 => ?_)
              · skip
                refine xZ.adv (me := xm100) hP_100 2 (pc' := 261) (lv' := [(7, .int (yw ((x13 - 1) - (v1 - x12)))), (6, .int (yw (v1 - x12))), (5, .int (yw x10)), (4, .int (yw x9)), (3, .int (yw x7)), (2, .int (yw s0)), (0, .ref v0), (1, .int (yw v1))]) (st' := [.int (1 : Int32)]) rfl ?_
                refine xZ.eqs (lv2 := [(7, .int (yw ((x13 - 1) - (v1 - x12)))), (6, .int (yw (v1 - x12))), (5, .int (yw x10)), (4, .int (yw x9)), (3, .int (yw x7)), (2, .int (yw s0)), (0, .ref v0), (1, .int (yw v1))]) (st2 := [.int (yw 1)]) rfl (by simp only [yl_lit, yL_lit, yw_add, yw_sub, yw_mul, yw_neg, yl_add, yl_sub, yl_mul, cj_and, cj_or, cj_xor, cj_shl, cj_shr, cj_ushr, cj_div, cj_i2c, cj_i2b, cj_dc, ck_and, ck_or, ck_xor, ck_shl, ck_shr, ck_ushr, ck_i2l, ck_l2i, ck_cmp]) ?_
                exact xZ.jrete (me := xm100) hP_100 rfl rfl rfl
              · skip
                refine xZ.adv (me := xm100) hP_100 2 (pc' := 261) (lv' := [(7, .int (yw ((x13 - 1) - (v1 - x12)))), (6, .int (yw (v1 - x12))), (5, .int (yw x10)), (4, .int (yw x9)), (3, .int (yw x7)), (2, .int (yw s0)), (0, .ref v0), (1, .int (yw v1))]) (st' := [.int (0 : Int32)]) rfl ?_
                refine xZ.eqs (lv2 := [(7, .int (yw ((x13 - 1) - (v1 - x12)))), (6, .int (yw (v1 - x12))), (5, .int (yw x10)), (4, .int (yw x9)), (3, .int (yw x7)), (2, .int (yw s0)), (0, .ref v0), (1, .int (yw v1))]) (st2 := [.int (yw 0)]) rfl (by simp only [yl_lit, yL_lit, yw_add, yw_sub, yw_mul, yw_neg, yl_add, yl_sub, yl_mul, cj_and, cj_or, cj_xor, cj_shl, cj_shr, cj_ushr, cj_div, cj_i2c, cj_i2b, cj_dc, ck_and, ck_or, ck_xor, ck_shl, ck_shr, ck_ushr, ck_i2l, ck_l2i, ck_cmp]) ?_
                exact xZ.jrete (me := xm100) hP_100 rfl rfl rfl
          · skip
            refine xZ.adv (me := xm100) hP_100 1 (pc' := 263) (lv' := [(7, .int (yw ((x13 - 1) - (v1 - x12)))), (6, .int (yw (v1 - x12))), (5, .int (yw x10)), (4, .int (yw x9)), (3, .int (yw x7)), (2, .int (yw s0)), (0, .ref v0), (1, .int (yw v1))]) (st' := [.int (yw s0)]) rfl ?_
            refine xZ.jf_eq (me := xm100) hP_100 rfl (fun h12 => ?_) (fun h12 => ?_)
            · skip
              refine xZ.adv (me := xm100) hP_100 1 (pc' := 312) (lv' := [(7, .int (yw ((x13 - 1) - (v1 - x12)))), (6, .int (yw (v1 - x12))), (5, .int (yw x10)), (4, .int (yw x9)), (3, .int (yw x7)), (2, .int (yw s0)), (0, .ref v0), (1, .int (yw v1))]) (st' := [.int (0 : Int32)]) rfl ?_
              refine xZ.eqs (lv2 := [(7, .int (yw ((x13 - 1) - (v1 - x12)))), (6, .int (yw (v1 - x12))), (5, .int (yw x10)), (4, .int (yw x9)), (3, .int (yw x7)), (2, .int (yw s0)), (0, .ref v0), (1, .int (yw v1))]) (st2 := [.int (yw 0)]) rfl (by simp only [yl_lit, yL_lit, yw_add, yw_sub, yw_mul, yw_neg, yl_add, yl_sub, yl_mul, cj_and, cj_or, cj_xor, cj_shl, cj_shr, cj_ushr, cj_div, cj_i2c, cj_i2b, cj_dc, ck_and, ck_or, ck_xor, ck_shl, ck_shr, ck_ushr, ck_i2l, ck_l2i, ck_cmp]) ?_
              exact xZ.jrete (me := xm100) hP_100 rfl rfl rfl
            · skip
              refine xZ.adv (me := xm100) hP_100 1 (pc' := 267) (lv' := [(7, .int (yw ((x13 - 1) - (v1 - x12)))), (6, .int (yw (v1 - x12))), (5, .int (yw x10)), (4, .int (yw x9)), (3, .int (yw x7)), (2, .int (yw s0)), (0, .ref v0), (1, .int (yw v1))]) (st' := [.ref v0]) rfl ?_
              refine xZ.k_gJ (me := xm100) hP_100 rfl (fun x21 => ?_)
              refine xZ.jf_le (me := xm100) hP_100 rfl (fun h13 => ?_) (fun h13 => ?_)
              · skip
                refine xZ.adv (me := xm100) hP_100 4 (pc' := 296) (lv' := [(7, .int (yw ((x13 - 1) - (v1 - x12)))), (6, .int (yw (v1 - x12))), (5, .int (yw x10)), (4, .int (yw x9)), (3, .int (yw x7)), (2, .int (yw s0)), (0, .ref v0), (1, .int (yw v1))]) (st' := [.int (1 : Int32), .int (yw ((x13 - 1) - (v1 - x12))), .int (yw v1), .ref v0]) rfl ?_
                refine xZ.eqs (lv2 := [(7, .int (yw ((x13 - 1) - (v1 - x12)))), (6, .int (yw (v1 - x12))), (5, .int (yw x10)), (4, .int (yw x9)), (3, .int (yw x7)), (2, .int (yw s0)), (0, .ref v0), (1, .int (yw v1))]) (st2 := [.int (yw 1), .int (yw ((x13 - 1) - (v1 - x12))), .int (yw v1), .ref v0]) rfl (by simp only [yl_lit, yL_lit, yw_add, yw_sub, yw_mul, yw_neg, yl_add, yl_sub, yl_mul, cj_and, cj_or, cj_xor, cj_shl, cj_shr, cj_ushr, cj_div, cj_i2c, cj_i2b, cj_dc, ck_and, ck_or, ck_xor, ck_shl, ck_shr, ck_ushr, ck_i2l, ck_l2i, ck_cmp]) ?_
                refine xZ.callv (κ := oJ) (av := [.int (yw v1), .int (yw ((x13 - 1) - (v1 - x12))), .int (yw 1)]) (rest := []) (st' := fun x22 => [.int (yw x22)]) (k0 := v0) (me := xm100) hP_100 rfl (Or.inl rfl) ⟨rfl, by decide⟩ rfl rfl (Nat.le_of_ble_eq_true rfl) (by decide) hP_101 (Nat.le_of_ble_eq_true rfl) (fun _ => rfl) (k_f_Rule_placeInSet O f (d + 0) v0 v1 ((x13 - 1) - (v1 - x12)) 1 M7) (fun x22 M9 => ?_)
                refine xZ.adv (me := xm100) hP_100 1 (pc' := 300) (lv' := [(7, .int (yw ((x13 - 1) - (v1 - x12)))), (6, .int (yw (v1 - x12))), (5, .int (yw x10)), (4, .int (yw x9)), (3, .int (yw x7)), (2, .int (yw s0)), (0, .ref v0), (1, .int (yw v1))]) (st' := [.ref v0, .int (yw x22)]) rfl ?_
                refine xZ.k_gJ (me := xm100) hP_100 rfl (fun x23 => ?_)
                refine xZ.adv (me := xm100) hP_100 1 (pc' := 304) (lv' := [(7, .int (yw ((x13 - 1) - (v1 - x12)))), (6, .int (yw (v1 - x12))), (5, .int (yw x10)), (4, .int (yw x9)), (3, .int (yw x7)), (2, .int (yw s0)), (0, .ref v0), (1, .int (yw v1))]) (st' := [.int (-(yw x23)), .int (yw x22)]) rfl ?_
                refine xZ.eqs (lv2 := [(7, .int (yw ((x13 - 1) - (v1 - x12)))), (6, .int (yw (v1 - x12))), (5, .int (yw x10)), (4, .int (yw x9)), (3, .int (yw x7)), (2, .int (yw s0)), (0, .ref v0), (1, .int (yw v1))]) (st2 := [.int (yw (-x23)), .int (yw x22)]) rfl (by simp only [yl_lit, yL_lit, yw_add, yw_sub, yw_mul, yw_neg, yl_add, yl_sub, yl_mul, cj_and, cj_or, cj_xor, cj_shl, cj_shr, cj_ushr, cj_div, cj_i2c, cj_i2b, cj_dc, ck_and, ck_or, ck_xor, ck_shl, ck_shr, ck_ushr, ck_i2l, ck_l2i, ck_cmp]) ?_
                refine xZ.jc_ne (me := xm100) hP_100 rfl (fun h14 => ?_) (fun h14 => ?_)
                · skip
                  refine xZ.adv (me := xm100) hP_100 2 (pc' := 312) (lv' := [(7, .int (yw ((x13 - 1) - (v1 - x12)))), (6, .int (yw (v1 - x12))), (5, .int (yw x10)), (4, .int (yw x9)), (3, .int (yw x7)), (2, .int (yw s0)), (0, .ref v0), (1, .int (yw v1))]) (st' := [.int (1 : Int32)]) rfl ?_
                  refine xZ.eqs (lv2 := [(7, .int (yw ((x13 - 1) - (v1 - x12)))), (6, .int (yw (v1 - x12))), (5, .int (yw x10)), (4, .int (yw x9)), (3, .int (yw x7)), (2, .int (yw s0)), (0, .ref v0), (1, .int (yw v1))]) (st2 := [.int (yw 1)]) rfl (by simp only [yl_lit, yL_lit, yw_add, yw_sub, yw_mul, yw_neg, yl_add, yl_sub, yl_mul, cj_and, cj_or, cj_xor, cj_shl, cj_shr, cj_ushr, cj_div, cj_i2c, cj_i2b, cj_dc, ck_and, ck_or, ck_xor, ck_shl, ck_shr, ck_ushr, ck_i2l, ck_l2i, ck_cmp]) ?_
                  exact xZ.jrete (me := xm100) hP_100 rfl rfl rfl
                · skip
                  refine xZ.adv (me := xm100) hP_100 1 (pc' := 312) (lv' := [(7, .int (yw ((x13 - 1) - (v1 - x12)))), (6, .int (yw (v1 - x12))), (5, .int (yw x10)), (4, .int (yw x9)), (3, .int (yw x7)), (2, .int (yw s0)), (0, .ref v0), (1, .int (yw v1))]) (st' := [.int (0 : Int32)]) rfl ?_
                  refine xZ.eqs (lv2 := [(7, .int (yw ((x13 - 1) - (v1 - x12)))), (6, .int (yw (v1 - x12))), (5, .int (yw x10)), (4, .int (yw x9)), (3, .int (yw x7)), (2, .int (yw s0)), (0, .ref v0), (1, .int (yw v1))]) (st2 := [.int (yw 0)]) rfl (by simp only [yl_lit, yL_lit, yw_add, yw_sub, yw_mul, yw_neg, yl_add, yl_sub, yl_mul, cj_and, cj_or, cj_xor, cj_shl, cj_shr, cj_ushr, cj_div, cj_i2c, cj_i2b, cj_dc, ck_and, ck_or, ck_xor, ck_shl, ck_shr, ck_ushr, ck_i2l, ck_l2i, ck_cmp]) ?_
                  exact xZ.jrete (me := xm100) hP_100 rfl rfl rfl
              · skip
                refine xZ.adv (me := xm100) hP_100 4 (pc' := 278) (lv' := [(7, .int (yw ((x13 - 1) - (v1 - x12)))), (6, .int (yw (v1 - x12))), (5, .int (yw x10)), (4, .int (yw x9)), (3, .int (yw x7)), (2, .int (yw s0)), (0, .ref v0), (1, .int (yw v1))]) (st' := [.int (-1 : Int32), .int (yw (v1 - x12)), .int (yw v1), .ref v0]) rfl ?_
                refine xZ.eqs (lv2 := [(7, .int (yw ((x13 - 1) - (v1 - x12)))), (6, .int (yw (v1 - x12))), (5, .int (yw x10)), (4, .int (yw x9)), (3, .int (yw x7)), (2, .int (yw s0)), (0, .ref v0), (1, .int (yw v1))]) (st2 := [.int (yw (-1)), .int (yw (v1 - x12)), .int (yw v1), .ref v0]) rfl (by simp only [yl_lit, yL_lit, yw_add, yw_sub, yw_mul, yw_neg, yl_add, yl_sub, yl_mul, cj_and, cj_or, cj_xor, cj_shl, cj_shr, cj_ushr, cj_div, cj_i2c, cj_i2b, cj_dc, ck_and, ck_or, ck_xor, ck_shl, ck_shr, ck_ushr, ck_i2l, ck_l2i, ck_cmp]) ?_
                refine xZ.callv (κ := oJ) (av := [.int (yw v1), .int (yw (v1 - x12)), .int (yw (-1))]) (rest := []) (st' := fun x24 => [.int (yw x24)]) (k0 := v0) (me := xm100) hP_100 rfl (Or.inl rfl) ⟨rfl, by decide⟩ rfl rfl (Nat.le_of_ble_eq_true rfl) (by decide) hP_101 (Nat.le_of_ble_eq_true rfl) (fun _ => rfl) (k_f_Rule_placeInSet O f (d + 0) v0 v1 (v1 - x12) (-1) M7) (fun x24 M10 => ?_)
                refine xZ.adv (me := xm100) hP_100 1 (pc' := 282) (lv' := [(7, .int (yw ((x13 - 1) - (v1 - x12)))), (6, .int (yw (v1 - x12))), (5, .int (yw x10)), (4, .int (yw x9)), (3, .int (yw x7)), (2, .int (yw s0)), (0, .ref v0), (1, .int (yw v1))]) (st' := [.ref v0, .int (yw x24)]) rfl ?_
                refine xZ.k_gJ (me := xm100) hP_100 rfl (fun x25 => ?_)
                refine xZ.jc_ne (me := xm100) hP_100 rfl (fun h15 => ?_) (fun h15 => ?_)
                · skip
                  refine xZ.adv (me := xm100) hP_100 3 (pc' := 312) (lv' := [(7, .int (yw ((x13 - 1) - (v1 - x12)))), (6, .int (yw (v1 - x12))), (5, .int (yw x10)), (4, .int (yw x9)), (3, .int (yw x7)), (2, .int (yw s0)), (0, .ref v0), (1, .int (yw v1))]) (st' := [.int (1 : Int32)]) rfl ?_
                  refine xZ.eqs (lv2 := [(7, .int (yw ((x13 - 1) - (v1 - x12)))), (6, .int (yw (v1 - x12))), (5, .int (yw x10)), (4, .int (yw x9)), (3, .int (yw x7)), (2, .int (yw s0)), (0, .ref v0), (1, .int (yw v1))]) (st2 := [.int (yw 1)]) rfl (by simp only [yl_lit, yL_lit, yw_add, yw_sub, yw_mul, yw_neg, yl_add, yl_sub, yl_mul, cj_and, cj_or, cj_xor, cj_shl, cj_shr, cj_ushr, cj_div, cj_i2c, cj_i2b, cj_dc, ck_and, ck_or, ck_xor, ck_shl, ck_shr, ck_ushr, ck_i2l, ck_l2i, ck_cmp]) ?_
                  exact xZ.jrete (me := xm100) hP_100 rfl rfl rfl
                · skip
                  refine xZ.adv (me := xm100) hP_100 1 (pc' := 312) (lv' := [(7, .int (yw ((x13 - 1) - (v1 - x12)))), (6, .int (yw (v1 - x12))), (5, .int (yw x10)), (4, .int (yw x9)), (3, .int (yw x7)), (2, .int (yw s0)), (0, .ref v0), (1, .int (yw v1))]) (st' := [.int (0 : Int32)]) rfl ?_
                  refine xZ.eqs (lv2 := [(7, .int (yw ((x13 - 1) - (v1 - x12)))), (6, .int (yw (v1 - x12))), (5, .int (yw x10)), (4, .int (yw x9)), (3, .int (yw x7)), (2, .int (yw s0)), (0, .ref v0), (1, .int (yw v1))]) (st2 := [.int (yw 0)]) rfl (by simp only [yl_lit, yL_lit, yw_add, yw_sub, yw_mul, yw_neg, yl_add, yl_sub, yl_mul, cj_and, cj_or, cj_xor, cj_shl, cj_shr, cj_ushr, cj_div, cj_i2c, cj_i2b, cj_dc, ck_and, ck_or, ck_xor, ck_shl, ck_shr, ck_ushr, ck_i2l, ck_l2i, ck_cmp]) ?_
                  exact xZ.jrete (me := xm100) hP_100 rfl rfl rfl
      · skip
        refine xZ.adv (me := xm100) hP_100 1 (pc' := 161) (lv' := [(5, .int (yw x10)), (4, .int (yw x9)), (3, .int (yw x7)), (2, .int (yw s0)), (0, .ref v0), (1, .int (yw v1))]) (st' := [.int (0 : Int32)]) rfl ?_
        refine xZ.eqs (lv2 := [(5, .int (yw x10)), (4, .int (yw x9)), (3, .int (yw x7)), (2, .int (yw s0)), (0, .ref v0), (1, .int (yw v1))]) (st2 := [.int (yw 0)]) rfl (by simp only [yl_lit, yL_lit, yw_add, yw_sub, yw_mul, yw_neg, yl_add, yl_sub, yl_mul, cj_and, cj_or, cj_xor, cj_shl, cj_shr, cj_ushr, cj_div, cj_i2c, cj_i2b, cj_dc, ck_and, ck_or, ck_xor, ck_shl, ck_shr, ck_ushr, ck_i2l, ck_l2i, ck_cmp]) ?_
        exact xZ.jrete (me := xm100) hP_100 rfl rfl rfl
def f_Rule_holds_23 (O : Nat → Option va_E) (f : Nat) (v0 : Nat) (v1 : Int) (M : xM) : Option (Int × xM) :=
  (gJ O M v0 9 0).bind fun x1 =>
  if yw v1 = yw x1 then (
    some (1, M)
  ) else
  some (0, M)
set_option maxRecDepth 20000 in
theorem k_f_Rule_holds_23 (O : Nat → Option va_E) (f d : Nat) (v0 : Nat) (v1 : Int) (M : xM) : xZ oJ O (d + 2) 100 23 [(0, .ref v0), (1, .int (yw v1))] [] M (f_Rule_holds_23 O f v0 v1 M) := by
  unfold f_Rule_holds_23
  refine xZ.adv (me := xm100) hP_100 2 (pc' := 25) (lv' := [(0, .ref v0), (1, .int (yw v1))]) (st' := [.ref v0, .int (yw v1)]) rfl ?_
  refine xZ.k_gJ (me := xm100) hP_100 rfl (fun x1 => ?_)
  refine xZ.jc_ne (me := xm100) hP_100 rfl (fun h1 => ?_) (fun h1 => ?_)
  · skip
    refine xZ.adv (me := xm100) hP_100 2 (pc' := 36) (lv' := [(0, .ref v0), (1, .int (yw v1))]) (st' := [.int (1 : Int32)]) rfl ?_
    refine xZ.eqs (lv2 := [(0, .ref v0), (1, .int (yw v1))]) (st2 := [.int (yw 1)]) rfl (by simp only [yl_lit, yL_lit, yw_add, yw_sub, yw_mul, yw_neg, yl_add, yl_sub, yl_mul, cj_and, cj_or, cj_xor, cj_shl, cj_shr, cj_ushr, cj_div, cj_i2c, cj_i2b, cj_dc, ck_and, ck_or, ck_xor, ck_shl, ck_shr, ck_ushr, ck_i2l, ck_l2i, ck_cmp]) ?_
    exact xZ.jrete (me := xm100) hP_100 rfl rfl rfl
  · skip
    refine xZ.adv (me := xm100) hP_100 1 (pc' := 36) (lv' := [(0, .ref v0), (1, .int (yw v1))]) (st' := [.int (0 : Int32)]) rfl ?_
    refine xZ.eqs (lv2 := [(0, .ref v0), (1, .int (yw v1))]) (st2 := [.int (yw 0)]) rfl (by simp only [yl_lit, yL_lit, yw_add, yw_sub, yw_mul, yw_neg, yl_add, yl_sub, yl_mul, cj_and, cj_or, cj_xor, cj_shl, cj_shr, cj_ushr, cj_div, cj_i2c, cj_i2b, cj_dc, ck_and, ck_or, ck_xor, ck_shl, ck_shr, ck_ushr, ck_i2l, ck_l2i, ck_cmp]) ?_
    exact xZ.jrete (me := xm100) hP_100 rfl rfl rfl
def f_Rule_holds (O : Nat → Option va_E) (f : Nat) (v0 : Nat) (v1 : Int) (M : xM) : Option (Int × xM) :=
  (gJ O M v0 9 0).bind fun x1 =>
  if yw v1 < yw x1 then (
    f_Rule_holds_23 O f v0 v1 M
  ) else
  (gJ O M v0 9 1).bind fun x2 =>
  if yw x2 = yw 0 then (
    f_Rule_holds_23 O f v0 v1 M
  ) else
  (gJ O M v0 9 2).bind fun x3 =>
  if yw 1 ≤ yw x3 then (
    (gJ O M v0 9 1).bind fun x4 =>
    if yw x4 = yw 1 then (
      (gJ O M v0 9 0).bind fun x5 =>
      (gJ O M v0 9 2).bind fun x6 =>
      if yw x6 = yw 0 then none else xlet ((v1 - x5) - (jdiv (v1 - x5) x6) * x6) fun x7 =>
      if yw x7 = yw 0 then (
        some (1, M)
      ) else
      some (0, M)
    ) else
    (gJ O M v0 9 3).bind fun x8 =>
    xcl (f_Days_weekdayOf O f v1 M) fun x9 M1 =>
    if yw (jand (jshr x8 (jand x9 31)) 1) = yw 1 then (
      f_Rule_holds_85 O f v0 v1 1 M1
    ) else
    f_Rule_holds_85 O f v0 v1 0 M1
  ) else
  f_Rule_holds_23 O f v0 v1 M
set_option maxRecDepth 20000 in
theorem k_f_Rule_holds (O : Nat → Option va_E) (f d : Nat) (v0 : Nat) (v1 : Int) (M : xM) : xZ oJ O (d + 2) 100 0 [(0, .ref v0), (1, .int (yw v1))] [] M (f_Rule_holds O f v0 v1 M) := by
  unfold f_Rule_holds
  refine xZ.adv (me := xm100) hP_100 2 (pc' := 2) (lv' := [(0, .ref v0), (1, .int (yw v1))]) (st' := [.ref v0, .int (yw v1)]) rfl ?_
  refine xZ.k_gJ (me := xm100) hP_100 rfl (fun x1 => ?_)
  refine xZ.jc_lt (me := xm100) hP_100 rfl (fun h1 => ?_) (fun h1 => ?_)
  · skip
    exact (k_f_Rule_holds_23 O f d v0 v1 M)
  · skip
    refine xZ.adv (me := xm100) hP_100 1 (pc' := 9) (lv' := [(0, .ref v0), (1, .int (yw v1))]) (st' := [.ref v0]) rfl ?_
    refine xZ.k_gJ (me := xm100) hP_100 rfl (fun x2 => ?_)
    refine xZ.jf_eq (me := xm100) hP_100 rfl (fun h2 => ?_) (fun h2 => ?_)
    · skip
      exact (k_f_Rule_holds_23 O f d v0 v1 M)
    · skip
      refine xZ.adv (me := xm100) hP_100 1 (pc' := 16) (lv' := [(0, .ref v0), (1, .int (yw v1))]) (st' := [.ref v0]) rfl ?_
      refine xZ.k_gJ (me := xm100) hP_100 rfl (fun x3 => ?_)
      refine xZ.adv (me := xm100) hP_100 1 (pc' := 20) (lv' := [(0, .ref v0), (1, .int (yw v1))]) (st' := [.int (1 : Int32), .int (yw x3)]) rfl ?_
      refine xZ.eqs (lv2 := [(0, .ref v0), (1, .int (yw v1))]) (st2 := [.int (yw 1), .int (yw x3)]) rfl (by simp only [yl_lit, yL_lit, yw_add, yw_sub, yw_mul, yw_neg, yl_add, yl_sub, yl_mul, cj_and, cj_or, cj_xor, cj_shl, cj_shr, cj_ushr, cj_div, cj_i2c, cj_i2b, cj_dc, ck_and, ck_or, ck_xor, ck_shl, ck_shr, ck_ushr, ck_i2l, ck_l2i, ck_cmp]) ?_
      refine xZ.jc_ge (me := xm100) hP_100 rfl (fun h3 => ?_) (fun h3 => ?_)
      · skip
        refine xZ.adv (me := xm100) hP_100 1 (pc' := 38) (lv' := [(0, .ref v0), (1, .int (yw v1))]) (st' := [.ref v0]) rfl ?_
        refine xZ.k_gJ (me := xm100) hP_100 rfl (fun x4 => ?_)
        refine xZ.adv (me := xm100) hP_100 1 (pc' := 42) (lv' := [(0, .ref v0), (1, .int (yw v1))]) (st' := [.int (1 : Int32), .int (yw x4)]) rfl ?_
        refine xZ.eqs (lv2 := [(0, .ref v0), (1, .int (yw v1))]) (st2 := [.int (yw 1), .int (yw x4)]) rfl (by simp only [yl_lit, yL_lit, yw_add, yw_sub, yw_mul, yw_neg, yl_add, yl_sub, yl_mul, cj_and, cj_or, cj_xor, cj_shl, cj_shr, cj_ushr, cj_div, cj_i2c, cj_i2b, cj_dc, ck_and, ck_or, ck_xor, ck_shl, ck_shr, ck_ushr, ck_i2l, ck_l2i, ck_cmp]) ?_
        refine xZ.jc_ne (me := xm100) hP_100 rfl (fun h4 => ?_) (fun h4 => ?_)
        · skip
          refine xZ.adv (me := xm100) hP_100 2 (pc' := 47) (lv' := [(0, .ref v0), (1, .int (yw v1))]) (st' := [.ref v0, .int (yw v1)]) rfl ?_
          refine xZ.k_gJ (me := xm100) hP_100 rfl (fun x5 => ?_)
          refine xZ.adv (me := xm100) hP_100 2 (pc' := 52) (lv' := [(0, .ref v0), (1, .int (yw v1))]) (st' := [.ref v0, .int ((yw v1) - (yw x5))]) rfl ?_
          refine xZ.eqs (lv2 := [(0, .ref v0), (1, .int (yw v1))]) (st2 := [.ref v0, .int (yw (v1 - x5))]) rfl (by simp only [yl_lit, yL_lit, yw_add, yw_sub, yw_mul, yw_neg, yl_add, yl_sub, yl_mul, cj_and, cj_or, cj_xor, cj_shl, cj_shr, cj_ushr, cj_div, cj_i2c, cj_i2b, cj_dc, ck_and, ck_or, ck_xor, ck_shl, ck_shr, ck_ushr, ck_i2l, ck_l2i, ck_cmp]) ?_
          refine xZ.k_gJ (me := xm100) hP_100 rfl (fun x6 => ?_)
          refine xZ.k_jrem (me := xm100) hP_100 rfl (fun x7 => ?_)
          refine xZ.jf_ne (me := xm100) hP_100 rfl (fun h5 => ?_) (fun h5 => ?_)
          · skip
            refine xZ.adv (me := xm100) hP_100 2 (pc' := 64) (lv' := [(0, .ref v0), (1, .int (yw v1))]) (st' := [.int (1 : Int32)]) rfl ?_
            refine xZ.eqs (lv2 := [(0, .ref v0), (1, .int (yw v1))]) (st2 := [.int (yw 1)]) rfl (by simp only [yl_lit, yL_lit, yw_add, yw_sub, yw_mul, yw_neg, yl_add, yl_sub, yl_mul, cj_and, cj_or, cj_xor, cj_shl, cj_shr, cj_ushr, cj_div, cj_i2c, cj_i2b, cj_dc, ck_and, ck_or, ck_xor, ck_shl, ck_shr, ck_ushr, ck_i2l, ck_l2i, ck_cmp]) ?_
            exact xZ.jrete (me := xm100) hP_100 rfl rfl rfl
          · skip
            refine xZ.adv (me := xm100) hP_100 1 (pc' := 64) (lv' := [(0, .ref v0), (1, .int (yw v1))]) (st' := [.int (0 : Int32)]) rfl ?_
            refine xZ.eqs (lv2 := [(0, .ref v0), (1, .int (yw v1))]) (st2 := [.int (yw 0)]) rfl (by simp only [yl_lit, yL_lit, yw_add, yw_sub, yw_mul, yw_neg, yl_add, yl_sub, yl_mul, cj_and, cj_or, cj_xor, cj_shl, cj_shr, cj_ushr, cj_div, cj_i2c, cj_i2b, cj_dc, ck_and, ck_or, ck_xor, ck_shl, ck_shr, ck_ushr, ck_i2l, ck_l2i, ck_cmp]) ?_
            exact xZ.jrete (me := xm100) hP_100 rfl rfl rfl
        · skip
          refine xZ.adv (me := xm100) hP_100 1 (pc' := 66) (lv' := [(0, .ref v0), (1, .int (yw v1))]) (st' := [.ref v0]) rfl ?_
          refine xZ.k_gJ (me := xm100) hP_100 rfl (fun x8 => ?_)
          refine xZ.adv (me := xm100) hP_100 1 (pc' := 70) (lv' := [(0, .ref v0), (1, .int (yw v1))]) (st' := [.int (yw v1), .int (yw x8)]) rfl ?_
          refine xZ.calls (κ := oJ) (av := [.int (yw v1)]) (rest := [.int (yw x8)]) (st' := fun x9 => [.int (yw x9), .int (yw x8)]) (me := xm100) hP_100 rfl rfl rfl (Nat.le_of_ble_eq_true rfl) (by decide) hP_49 (Nat.le_of_ble_eq_true rfl) (fun _ => rfl) (k_f_Days_weekdayOf O f (d + 1) v1 M) (fun x9 M1 => ?_)
          refine xZ.adv (me := xm100) hP_100 4 (pc' := 77) (lv' := [(0, .ref v0), (1, .int (yw v1))]) (st' := [.int (1 : Int32), .int (((yw x8) >>> ((yw x9) &&& 31)) &&& (1 : Int32))]) rfl ?_
          refine xZ.eqs (lv2 := [(0, .ref v0), (1, .int (yw v1))]) (st2 := [.int (yw 1), .int (yw (jand (jshr x8 (jand x9 31)) 1))]) rfl (by simp only [yl_lit, yL_lit, yw_add, yw_sub, yw_mul, yw_neg, yl_add, yl_sub, yl_mul, cj_and, cj_or, cj_xor, cj_shl, cj_shr, cj_ushr, cj_div, cj_i2c, cj_i2b, cj_dc, ck_and, ck_or, ck_xor, ck_shl, ck_shr, ck_ushr, ck_i2l, ck_l2i, ck_cmp]) ?_
          refine xZ.jc_ne (me := xm100) hP_100 rfl (fun h6 => ?_) (fun h6 => ?_)
          · skip
            refine xZ.adv (me := xm100) hP_100 2 (pc' := 85) (lv' := [(0, .ref v0), (1, .int (yw v1))]) (st' := [.int (1 : Int32)]) rfl ?_
            refine xZ.eqs (lv2 := [(0, .ref v0), (1, .int (yw v1))]) (st2 := [.int (yw 1)]) rfl (by simp only [yl_lit, yL_lit, yw_add, yw_sub, yw_mul, yw_neg, yl_add, yl_sub, yl_mul, cj_and, cj_or, cj_xor, cj_shl, cj_shr, cj_ushr, cj_div, cj_i2c, cj_i2b, cj_dc, ck_and, ck_or, ck_xor, ck_shl, ck_shr, ck_ushr, ck_i2l, ck_l2i, ck_cmp]) ?_
            exact (k_f_Rule_holds_85 O f d v0 v1 1 M1)
          · skip
            refine xZ.adv (me := xm100) hP_100 1 (pc' := 85) (lv' := [(0, .ref v0), (1, .int (yw v1))]) (st' := [.int (0 : Int32)]) rfl ?_
            refine xZ.eqs (lv2 := [(0, .ref v0), (1, .int (yw v1))]) (st2 := [.int (yw 0)]) rfl (by simp only [yl_lit, yL_lit, yw_add, yw_sub, yw_mul, yw_neg, yl_add, yl_sub, yl_mul, cj_and, cj_or, cj_xor, cj_shl, cj_shr, cj_ushr, cj_div, cj_i2c, cj_i2b, cj_dc, ck_and, ck_or, ck_xor, ck_shl, ck_shr, ck_ushr, ck_i2l, ck_l2i, ck_cmp]) ?_
            exact (k_f_Rule_holds_85 O f d v0 v1 0 M1)
      · skip
        exact (k_f_Rule_holds_23 O f d v0 v1 M)
def f_Rule_isDay (O : Nat → Option va_E) (f : Nat) (v0 : Nat) (v1 : Int) (M : xM) : Option (Int × xM) :=
  (gJ O M v0 9 0).bind fun x1 =>
  if yw v1 < yw x1 then (
    some (0, M)
  ) else
  (gJ O M v0 9 7).bind fun x2 =>
  if yw x2 < yw v1 then (
    some (0, M)
  ) else
  (isO O M v0 9).bind fun _ =>
  xcl (f_Rule_holds O f v0 v1 M) fun x3 M1 =>
  if yw x3 = yw 0 then (
    some (0, M1)
  ) else
  some (1, M1)
set_option maxRecDepth 20000 in
theorem k_f_Rule_isDay (O : Nat → Option va_E) (f d : Nat) (v0 : Nat) (v1 : Int) (M : xM) : xZ oJ O (d + 3) 99 0 [(0, .ref v0), (1, .int (yw v1))] [] M (f_Rule_isDay O f v0 v1 M) := by
  unfold f_Rule_isDay
  refine xZ.adv (me := xm99) hP_99 2 (pc' := 2) (lv' := [(0, .ref v0), (1, .int (yw v1))]) (st' := [.ref v0, .int (yw v1)]) rfl ?_
  refine xZ.k_gJ (me := xm99) hP_99 rfl (fun x1 => ?_)
  refine xZ.jc_lt (me := xm99) hP_99 rfl (fun h1 => ?_) (fun h1 => ?_)
  · skip
    refine xZ.adv (me := xm99) hP_99 1 (pc' := 29) (lv' := [(0, .ref v0), (1, .int (yw v1))]) (st' := [.int (0 : Int32)]) rfl ?_
    refine xZ.eqs (lv2 := [(0, .ref v0), (1, .int (yw v1))]) (st2 := [.int (yw 0)]) rfl (by simp only [yl_lit, yL_lit, yw_add, yw_sub, yw_mul, yw_neg, yl_add, yl_sub, yl_mul, cj_and, cj_or, cj_xor, cj_shl, cj_shr, cj_ushr, cj_div, cj_i2c, cj_i2b, cj_dc, ck_and, ck_or, ck_xor, ck_shl, ck_shr, ck_ushr, ck_i2l, ck_l2i, ck_cmp]) ?_
    exact xZ.jrete (me := xm99) hP_99 rfl rfl rfl
  · skip
    refine xZ.adv (me := xm99) hP_99 2 (pc' := 10) (lv' := [(0, .ref v0), (1, .int (yw v1))]) (st' := [.ref v0, .int (yw v1)]) rfl ?_
    refine xZ.k_gJ (me := xm99) hP_99 rfl (fun x2 => ?_)
    refine xZ.jc_gt (me := xm99) hP_99 rfl (fun h2 => ?_) (fun h2 => ?_)
    · skip
      refine xZ.adv (me := xm99) hP_99 1 (pc' := 29) (lv' := [(0, .ref v0), (1, .int (yw v1))]) (st' := [.int (0 : Int32)]) rfl ?_
      refine xZ.eqs (lv2 := [(0, .ref v0), (1, .int (yw v1))]) (st2 := [.int (yw 0)]) rfl (by simp only [yl_lit, yL_lit, yw_add, yw_sub, yw_mul, yw_neg, yl_add, yl_sub, yl_mul, cj_and, cj_or, cj_xor, cj_shl, cj_shr, cj_ushr, cj_div, cj_i2c, cj_i2b, cj_dc, ck_and, ck_or, ck_xor, ck_shl, ck_shr, ck_ushr, ck_i2l, ck_l2i, ck_cmp]) ?_
      exact xZ.jrete (me := xm99) hP_99 rfl rfl rfl
    · skip
      refine xZ.adv (me := xm99) hP_99 2 (pc' := 18) (lv' := [(0, .ref v0), (1, .int (yw v1))]) (st' := [.int (yw v1), .ref v0]) rfl ?_
      refine xZ.callv (κ := oJ) (av := [.int (yw v1)]) (rest := []) (st' := fun x3 => [.int (yw x3)]) (k0 := v0) (me := xm99) hP_99 rfl (Or.inl rfl) ⟨rfl, by decide⟩ rfl rfl (Nat.le_of_ble_eq_true rfl) (by decide) hP_100 (Nat.le_of_ble_eq_true rfl) (fun _ => rfl) (k_f_Rule_holds O f (d + 0) v0 v1 M) (fun x3 M1 => ?_)
      refine xZ.jf_eq (me := xm99) hP_99 rfl (fun h3 => ?_) (fun h3 => ?_)
      · skip
        refine xZ.adv (me := xm99) hP_99 1 (pc' := 29) (lv' := [(0, .ref v0), (1, .int (yw v1))]) (st' := [.int (0 : Int32)]) rfl ?_
        refine xZ.eqs (lv2 := [(0, .ref v0), (1, .int (yw v1))]) (st2 := [.int (yw 0)]) rfl (by simp only [yl_lit, yL_lit, yw_add, yw_sub, yw_mul, yw_neg, yl_add, yl_sub, yl_mul, cj_and, cj_or, cj_xor, cj_shl, cj_shr, cj_ushr, cj_div, cj_i2c, cj_i2b, cj_dc, ck_and, ck_or, ck_xor, ck_shl, ck_shr, ck_ushr, ck_i2l, ck_l2i, ck_cmp]) ?_
        exact xZ.jrete (me := xm99) hP_99 rfl rfl rfl
      · skip
        refine xZ.adv (me := xm99) hP_99 2 (pc' := 29) (lv' := [(0, .ref v0), (1, .int (yw v1))]) (st' := [.int (1 : Int32)]) rfl ?_
        refine xZ.eqs (lv2 := [(0, .ref v0), (1, .int (yw v1))]) (st2 := [.int (yw 1)]) rfl (by simp only [yl_lit, yL_lit, yw_add, yw_sub, yw_mul, yw_neg, yl_add, yl_sub, yl_mul, cj_and, cj_or, cj_xor, cj_shl, cj_shr, cj_ushr, cj_div, cj_i2c, cj_i2b, cj_dc, ck_and, ck_or, ck_xor, ck_shl, ck_shr, ck_ushr, ck_i2l, ck_l2i, ck_cmp]) ?_
        exact xZ.jrete (me := xm99) hP_99 rfl rfl rfl
def f_Hall_zoneOf (O : Nat → Option va_E) (f : Nat) (v0 : Nat) (v1 : Nat) (M : xM) : Option (Nat × xM) :=
  (gJ O M v1 10 1).bind fun x1 =>
  (isO O M v0 4).bind fun _ =>
  xcl (f_Hall_anyZone O f v0 x1 M) fun x2 M1 =>
  some (x2, M1)
set_option maxRecDepth 20000 in
theorem k_f_Hall_zoneOf (O : Nat → Option va_E) (f d : Nat) (v0 : Nat) (v1 : Nat) (M : xM) : xZ oR O (d + 1) 102 0 [(0, .ref v0), (1, .ref v1)] [] M (f_Hall_zoneOf O f v0 v1 M) := by
  unfold f_Hall_zoneOf
  refine xZ.adv (me := xm102) hP_102 2 (pc' := 2) (lv' := [(0, .ref v0), (1, .ref v1)]) (st' := [.ref v1, .ref v0]) rfl ?_
  refine xZ.k_gJ (me := xm102) hP_102 rfl (fun x1 => ?_)
  refine xZ.callv (κ := oR) (av := [.int (yw x1)]) (rest := []) (st' := fun x2 => [.ref x2]) (k0 := v0) (me := xm102) hP_102 rfl (Or.inl rfl) ⟨rfl, by decide⟩ rfl rfl (Nat.le_of_ble_eq_true rfl) (by decide) hP_21 (Nat.le_of_ble_eq_true rfl) (fun _ => rfl) (k_f_Hall_anyZone O f (d + 0) v0 x1 M) (fun x2 M1 => ?_)
  exact xZ.retr (me := xm102) hP_102 rfl rfl rfl
def f_Series_exceptionOf_2 (O : Nat → Option va_E) (f : Nat) : Nat → Nat → Int → Int → xM → Option (Int × xM)
  | 0, _, _, _, _ => none
  | n + 1, v0, v1, v2, M =>
    (gJ O M v0 10 7).bind fun x1 =>
    if yw x1 ≤ yw v2 then (
      some ((-1), M)
    ) else
    (gR O M v0 10 8).bind fun x2 =>
    (aJN O M x2).bind fun x3 =>
    if yw x3 ≤ yw v2 then (
      some ((-1), M)
    ) else
    (gR O M v0 10 8).bind fun x4 =>
    (aJ O M x4 v2).bind fun x5 =>
    if yw x5 = yw v1 then (
      some (v2, M)
    ) else
    f_Series_exceptionOf_2 O f n v0 v1 (v2 + 1) M
set_option maxRecDepth 20000 in
theorem k_f_Series_exceptionOf_2 (O : Nat → Option va_E) (f d : Nat) : ∀ (n : Nat) (v0 : Nat) (v1 : Int) (v2 : Int) (M : xM), xZ oJ O (d + 0) 104 2 [(0, .ref v0), (1, .int (yw v1)), (2, .int (yw v2))] [] M (f_Series_exceptionOf_2 O f n v0 v1 v2 M) := by
  intro n
  induction n with
  | zero =>
    intro v0 v1 v2 M
    exact xZ.no
  | succ n ih =>
    intro v0 v1 v2 M
    unfold f_Series_exceptionOf_2
    refine xZ.adv (me := xm104) hP_104 2 (pc' := 4) (lv' := [(0, .ref v0), (1, .int (yw v1)), (2, .int (yw v2))]) (st' := [.ref v0, .int (yw v2)]) rfl ?_
    refine xZ.k_gJ (me := xm104) hP_104 rfl (fun x1 => ?_)
    refine xZ.jc_ge (me := xm104) hP_104 rfl (fun h1 => ?_) (fun h1 => ?_)
    · skip
      refine xZ.adv (me := xm104) hP_104 1 (pc' := 38) (lv' := [(0, .ref v0), (1, .int (yw v1)), (2, .int (yw v2))]) (st' := [.int (-1 : Int32)]) rfl ?_
      refine xZ.eqs (lv2 := [(0, .ref v0), (1, .int (yw v1)), (2, .int (yw v2))]) (st2 := [.int (yw (-1))]) rfl (by simp only [yl_lit, yL_lit, yw_add, yw_sub, yw_mul, yw_neg, yl_add, yl_sub, yl_mul, cj_and, cj_or, cj_xor, cj_shl, cj_shr, cj_ushr, cj_div, cj_i2c, cj_i2b, cj_dc, ck_and, ck_or, ck_xor, ck_shl, ck_shr, ck_ushr, ck_i2l, ck_l2i, ck_cmp]) ?_
      exact xZ.jreti (me := xm104) hP_104 rfl rfl
    · skip
      refine xZ.adv (me := xm104) hP_104 2 (pc' := 12) (lv' := [(0, .ref v0), (1, .int (yw v1)), (2, .int (yw v2))]) (st' := [.ref v0, .int (yw v2)]) rfl ?_
      refine xZ.k_gR (me := xm104) hP_104 rfl (fun x2 => ?_)
      refine xZ.k_aJN (me := xm104) hP_104 rfl (fun x3 => ?_)
      refine xZ.jc_ge (me := xm104) hP_104 rfl (fun h2 => ?_) (fun h2 => ?_)
      · skip
        refine xZ.adv (me := xm104) hP_104 1 (pc' := 38) (lv' := [(0, .ref v0), (1, .int (yw v1)), (2, .int (yw v2))]) (st' := [.int (-1 : Int32)]) rfl ?_
        refine xZ.eqs (lv2 := [(0, .ref v0), (1, .int (yw v1)), (2, .int (yw v2))]) (st2 := [.int (yw (-1))]) rfl (by simp only [yl_lit, yL_lit, yw_add, yw_sub, yw_mul, yw_neg, yl_add, yl_sub, yl_mul, cj_and, cj_or, cj_xor, cj_shl, cj_shr, cj_ushr, cj_div, cj_i2c, cj_i2b, cj_dc, ck_and, ck_or, ck_xor, ck_shl, ck_shr, ck_ushr, ck_i2l, ck_l2i, ck_cmp]) ?_
        exact xZ.jreti (me := xm104) hP_104 rfl rfl
      · skip
        refine xZ.adv (me := xm104) hP_104 1 (pc' := 20) (lv' := [(0, .ref v0), (1, .int (yw v1)), (2, .int (yw v2))]) (st' := [.ref v0]) rfl ?_
        refine xZ.k_gR (me := xm104) hP_104 rfl (fun x4 => ?_)
        refine xZ.adv (me := xm104) hP_104 1 (pc' := 24) (lv' := [(0, .ref v0), (1, .int (yw v1)), (2, .int (yw v2))]) (st' := [.int (yw v2), .ref x4]) rfl ?_
        refine xZ.k_aJ (me := xm104) hP_104 rfl (fun x5 => ?_)
        refine xZ.adv (me := xm104) hP_104 1 (pc' := 26) (lv' := [(0, .ref v0), (1, .int (yw v1)), (2, .int (yw v2))]) (st' := [.int (yw v1), .int (yw x5)]) rfl ?_
        refine xZ.jc_ne (me := xm104) hP_104 rfl (fun h3 => ?_) (fun h3 => ?_)
        · skip
          refine xZ.adv (me := xm104) hP_104 1 (pc' := 30) (lv' := [(0, .ref v0), (1, .int (yw v1)), (2, .int (yw v2))]) (st' := [.int (yw v2)]) rfl ?_
          exact xZ.jreti (me := xm104) hP_104 rfl rfl
        · skip
          refine xZ.adv (me := xm104) hP_104 2 (pc' := 2) (lv' := [(2, .int ((yw v2) + (1 : Int32))), (0, .ref v0), (1, .int (yw v1))]) (st' := []) rfl ?_
          refine xZ.eqs (lv2 := [(2, .int (yw (v2 + 1))), (0, .ref v0), (1, .int (yw v1))]) (st2 := []) (by simp only [yl_lit, yL_lit, yw_add, yw_sub, yw_mul, yw_neg, yl_add, yl_sub, yl_mul, cj_and, cj_or, cj_xor, cj_shl, cj_shr, cj_ushr, cj_div, cj_i2c, cj_i2b, cj_dc, ck_and, ck_or, ck_xor, ck_shl, ck_shr, ck_ushr, ck_i2l, ck_l2i, ck_cmp]) rfl ?_
          exact xZ.sub (xsc (.tail _ (.head _)) (xsc (.tail _ (.tail _ (.head _))) (xsc (.head _) xsn))) (show ([2, 0, 1] : List Nat).Nodup from by decide) (ih v0 v1 (v2 + 1) M)
def f_Series_exceptionOf (O : Nat → Option va_E) (f : Nat) (v0 : Nat) (v1 : Int) (M : xM) : Option (Int × xM) :=
  f_Series_exceptionOf_2 O f f v0 v1 0 M
set_option maxRecDepth 20000 in
theorem k_f_Series_exceptionOf (O : Nat → Option va_E) (f d : Nat) (v0 : Nat) (v1 : Int) (M : xM) : xZ oJ O (d + 0) 104 0 [(0, .ref v0), (1, .int (yw v1))] [] M (f_Series_exceptionOf O f v0 v1 M) := by
  unfold f_Series_exceptionOf
  refine xZ.adv (me := xm104) hP_104 2 (pc' := 2) (lv' := [(2, .int (0 : Int32)), (0, .ref v0), (1, .int (yw v1))]) (st' := []) rfl ?_
  refine xZ.eqs (lv2 := [(2, .int (yw 0)), (0, .ref v0), (1, .int (yw v1))]) (st2 := []) (by simp only [yl_lit, yL_lit, yw_add, yw_sub, yw_mul, yw_neg, yl_add, yl_sub, yl_mul, cj_and, cj_or, cj_xor, cj_shl, cj_shr, cj_ushr, cj_div, cj_i2c, cj_i2b, cj_dc, ck_and, ck_or, ck_xor, ck_shl, ck_shr, ck_ushr, ck_i2l, ck_l2i, ck_cmp]) rfl ?_
  exact xZ.sub (xsc (.tail _ (.head _)) (xsc (.tail _ (.tail _ (.head _))) (xsc (.head _) xsn))) (show ([2, 0, 1] : List Nat).Nodup from by decide) (k_f_Series_exceptionOf_2 O f d f v0 v1 0 M)
def f_Zone_switchIn_51 (O : Nat → Option va_E) (f : Nat) (v1 : Nat) (v3 : Int) (M : xM) : Option (Int × xM) :=
  (aJ O M v1 3).bind fun x1 =>
  some (((v3 * 1440) + x1), M)
set_option maxRecDepth 20000 in
theorem k_f_Zone_switchIn_51 (O : Nat → Option va_E) (f d : Nat) (v1 : Nat) (v3 : Int) (M : xM) : xZ oJ O (d + 1) 107 51 [(1, .ref v1), (3, .int (yw v3))] [] M (f_Zone_switchIn_51 O f v1 v3 M) := by
  unfold f_Zone_switchIn_51
  refine xZ.adv (me := xm107) hP_107 5 (pc' := 58) (lv' := [(1, .ref v1), (3, .int (yw v3))]) (st' := [.int (3 : Int32), .ref v1, .int ((yw v3) * (1440 : Int32))]) rfl ?_
  refine xZ.eqs (lv2 := [(1, .ref v1), (3, .int (yw v3))]) (st2 := [.int (yw 3), .ref v1, .int (yw (v3 * 1440))]) rfl (by simp only [yl_lit, yL_lit, yw_add, yw_sub, yw_mul, yw_neg, yl_add, yl_sub, yl_mul, cj_and, cj_or, cj_xor, cj_shl, cj_shr, cj_ushr, cj_div, cj_i2c, cj_i2b, cj_dc, ck_and, ck_or, ck_xor, ck_shl, ck_shr, ck_ushr, ck_i2l, ck_l2i, ck_cmp]) ?_
  refine xZ.k_aJ (me := xm107) hP_107 rfl (fun x1 => ?_)
  refine xZ.adv (me := xm107) hP_107 1 (pc' := 60) (lv' := [(1, .ref v1), (3, .int (yw v3))]) (st' := [.int ((yw (v3 * 1440)) + (yw x1))]) rfl ?_
  refine xZ.eqs (lv2 := [(1, .ref v1), (3, .int (yw v3))]) (st2 := [.int (yw ((v3 * 1440) + x1))]) rfl (by simp only [yl_lit, yL_lit, yw_add, yw_sub, yw_mul, yw_neg, yl_add, yl_sub, yl_mul, cj_and, cj_or, cj_xor, cj_shl, cj_shr, cj_ushr, cj_div, cj_i2c, cj_i2b, cj_dc, ck_and, ck_or, ck_xor, ck_shl, ck_shr, ck_ushr, ck_i2l, ck_l2i, ck_cmp]) ?_
  exact xZ.jreti (me := xm107) hP_107 rfl rfl
def f_Zone_switchIn (O : Nat → Option va_E) (f : Nat) (v0 : Int) (v1 : Nat) (M : xM) : Option (Int × xM) :=
  (aJN O M v1).bind fun x1 =>
  if yw 4 ≤ yw x1 then (
    xcl (f_Days_monthBegin O f v0 M) fun x2 M1 =>
    (aJ O M1 v1 2).bind fun x3 =>
    xcl (f_Math_floorMod O f ((x3 - x2) - 5) 7 M1) fun x4 M2 =>
    (aJ O M2 v1 1).bind fun x5 =>
    xcl (f_Days_monthLength O f v0 M2) fun x6 M3 =>
    if yw ((x2 + x4) + (7 * (x5 - 1))) < yw (x2 + x6) then (
      f_Zone_switchIn_51 O f v1 ((x2 + x4) + (7 * (x5 - 1))) M3
    ) else
    xlet (((x2 + x4) + (7 * (x5 - 1))) + (-7)) fun x7 =>
    f_Zone_switchIn_51 O f v1 x7 M3
  ) else
  some (1000000000, M)
set_option maxRecDepth 20000 in
theorem k_f_Zone_switchIn (O : Nat → Option va_E) (f d : Nat) (v0 : Int) (v1 : Nat) (M : xM) : xZ oJ O (d + 1) 107 0 [(0, .int (yw v0)), (1, .ref v1)] [] M (f_Zone_switchIn O f v0 v1 M) := by
  unfold f_Zone_switchIn
  refine xZ.adv (me := xm107) hP_107 1 (pc' := 1) (lv' := [(0, .int (yw v0)), (1, .ref v1)]) (st' := [.ref v1]) rfl ?_
  refine xZ.k_aJN (me := xm107) hP_107 rfl (fun x1 => ?_)
  refine xZ.adv (me := xm107) hP_107 1 (pc' := 3) (lv' := [(0, .int (yw v0)), (1, .ref v1)]) (st' := [.int (4 : Int32), .int (yw x1)]) rfl ?_
  refine xZ.eqs (lv2 := [(0, .int (yw v0)), (1, .ref v1)]) (st2 := [.int (yw 4), .int (yw x1)]) rfl (by simp only [yl_lit, yL_lit, yw_add, yw_sub, yw_mul, yw_neg, yl_add, yl_sub, yl_mul, cj_and, cj_or, cj_xor, cj_shl, cj_shr, cj_ushr, cj_div, cj_i2c, cj_i2b, cj_dc, ck_and, ck_or, ck_xor, ck_shl, ck_shr, ck_ushr, ck_i2l, ck_l2i, ck_cmp]) ?_
  refine xZ.jc_ge (me := xm107) hP_107 rfl (fun h1 => ?_) (fun h1 => ?_)
  · skip
    refine xZ.adv (me := xm107) hP_107 1 (pc' := 10) (lv' := [(0, .int (yw v0)), (1, .ref v1)]) (st' := [.int (yw v0)]) rfl ?_
    refine xZ.calls (κ := oJ) (av := [.int (yw v0)]) (rest := []) (st' := fun x2 => [.int (yw x2)]) (me := xm107) hP_107 rfl rfl rfl (Nat.le_of_ble_eq_true rfl) (by decide) hP_54 (Nat.le_of_ble_eq_true rfl) (fun _ => rfl) (k_f_Days_monthBegin O f (d + 0) v0 M) (fun x2 M1 => ?_)
    refine xZ.adv (me := xm107) hP_107 4 (pc' := 17) (lv' := [(2, .int (yw x2)), (0, .int (yw v0)), (1, .ref v1)]) (st' := [.int (2 : Int32), .ref v1, .int (yw x2)]) rfl ?_
    refine xZ.eqs (lv2 := [(2, .int (yw x2)), (0, .int (yw v0)), (1, .ref v1)]) (st2 := [.int (yw 2), .ref v1, .int (yw x2)]) rfl (by simp only [yl_lit, yL_lit, yw_add, yw_sub, yw_mul, yw_neg, yl_add, yl_sub, yl_mul, cj_and, cj_or, cj_xor, cj_shl, cj_shr, cj_ushr, cj_div, cj_i2c, cj_i2b, cj_dc, ck_and, ck_or, ck_xor, ck_shl, ck_shr, ck_ushr, ck_i2l, ck_l2i, ck_cmp]) ?_
    refine xZ.k_aJ (me := xm107) hP_107 rfl (fun x3 => ?_)
    refine xZ.adv (me := xm107) hP_107 5 (pc' := 24) (lv' := [(2, .int (yw x2)), (0, .int (yw v0)), (1, .ref v1)]) (st' := [.int (7 : Int32), .int (((yw x3) - (yw x2)) - (5 : Int32)), .int (yw x2)]) rfl ?_
    refine xZ.eqs (lv2 := [(2, .int (yw x2)), (0, .int (yw v0)), (1, .ref v1)]) (st2 := [.int (yw 7), .int (yw ((x3 - x2) - 5)), .int (yw x2)]) rfl (by simp only [yl_lit, yL_lit, yw_add, yw_sub, yw_mul, yw_neg, yl_add, yl_sub, yl_mul, cj_and, cj_or, cj_xor, cj_shl, cj_shr, cj_ushr, cj_div, cj_i2c, cj_i2b, cj_dc, ck_and, ck_or, ck_xor, ck_shl, ck_shr, ck_ushr, ck_i2l, ck_l2i, ck_cmp]) ?_
    refine xZ.calls (κ := oJ) (av := [.int (yw ((x3 - x2) - 5)), .int (yw 7)]) (rest := [.int (yw x2)]) (st' := fun x4 => [.int (yw x4), .int (yw x2)]) (me := xm107) hP_107 rfl rfl rfl (Nat.le_of_ble_eq_true rfl) (by decide) hP_250 (Nat.le_of_ble_eq_true rfl) (fun _ => rfl) (k_f_Math_floorMod O f (d + 0) ((x3 - x2) - 5) 7 M1) (fun x4 M2 => ?_)
    refine xZ.adv (me := xm107) hP_107 4 (pc' := 32) (lv' := [(2, .int (yw x2)), (0, .int (yw v0)), (1, .ref v1)]) (st' := [.int (1 : Int32), .ref v1, .int (7 : Int32), .int ((yw x2) + (yw x4))]) rfl ?_
    refine xZ.eqs (lv2 := [(2, .int (yw x2)), (0, .int (yw v0)), (1, .ref v1)]) (st2 := [.int (yw 1), .ref v1, .int (yw 7), .int (yw (x2 + x4))]) rfl (by simp only [yl_lit, yL_lit, yw_add, yw_sub, yw_mul, yw_neg, yl_add, yl_sub, yl_mul, cj_and, cj_or, cj_xor, cj_shl, cj_shr, cj_ushr, cj_div, cj_i2c, cj_i2b, cj_dc, ck_and, ck_or, ck_xor, ck_shl, ck_shr, ck_ushr, ck_i2l, ck_l2i, ck_cmp]) ?_
    refine xZ.k_aJ (me := xm107) hP_107 rfl (fun x5 => ?_)
    refine xZ.adv (me := xm107) hP_107 8 (pc' := 41) (lv' := [(3, .int ((yw (x2 + x4)) + ((yw 7) * ((yw x5) - (1 : Int32))))), (2, .int (yw x2)), (0, .int (yw v0)), (1, .ref v1)]) (st' := [.int (yw v0), .int (yw x2), .int ((yw (x2 + x4)) + ((yw 7) * ((yw x5) - (1 : Int32))))]) rfl ?_
    refine xZ.eqs (lv2 := [(3, .int (yw ((x2 + x4) + (7 * (x5 - 1))))), (2, .int (yw x2)), (0, .int (yw v0)), (1, .ref v1)]) (st2 := [.int (yw v0), .int (yw x2), .int (yw ((x2 + x4) + (7 * (x5 - 1))))]) (by simp only [yl_lit, yL_lit, yw_add, yw_sub, yw_mul, yw_neg, yl_add, yl_sub, yl_mul, cj_and, cj_or, cj_xor, cj_shl, cj_shr, cj_ushr, cj_div, cj_i2c, cj_i2b, cj_dc, ck_and, ck_or, ck_xor, ck_shl, ck_shr, ck_ushr, ck_i2l, ck_l2i, ck_cmp]) (by simp only [yl_lit, yL_lit, yw_add, yw_sub, yw_mul, yw_neg, yl_add, yl_sub, yl_mul, cj_and, cj_or, cj_xor, cj_shl, cj_shr, cj_ushr, cj_div, cj_i2c, cj_i2b, cj_dc, ck_and, ck_or, ck_xor, ck_shl, ck_shr, ck_ushr, ck_i2l, ck_l2i, ck_cmp]) ?_
    refine xZ.calls (κ := oJ) (av := [.int (yw v0)]) (rest := [.int (yw x2), .int (yw ((x2 + x4) + (7 * (x5 - 1))))]) (st' := fun x6 => [.int (yw x6), .int (yw x2), .int (yw ((x2 + x4) + (7 * (x5 - 1))))]) (me := xm107) hP_107 rfl rfl rfl (Nat.le_of_ble_eq_true rfl) (by decide) hP_55 (Nat.le_of_ble_eq_true rfl) (fun _ => rfl) (k_f_Days_monthLength O f (d + 0) v0 M2) (fun x6 M3 => ?_)
    refine xZ.adv (me := xm107) hP_107 1 (pc' := 45) (lv' := [(3, .int (yw ((x2 + x4) + (7 * (x5 - 1))))), (2, .int (yw x2)), (0, .int (yw v0)), (1, .ref v1)]) (st' := [.int ((yw x2) + (yw x6)), .int (yw ((x2 + x4) + (7 * (x5 - 1))))]) rfl ?_
    refine xZ.eqs (lv2 := [(3, .int (yw ((x2 + x4) + (7 * (x5 - 1))))), (2, .int (yw x2)), (0, .int (yw v0)), (1, .ref v1)]) (st2 := [.int (yw (x2 + x6)), .int (yw ((x2 + x4) + (7 * (x5 - 1))))]) rfl (by simp only [yl_lit, yL_lit, yw_add, yw_sub, yw_mul, yw_neg, yl_add, yl_sub, yl_mul, cj_and, cj_or, cj_xor, cj_shl, cj_shr, cj_ushr, cj_div, cj_i2c, cj_i2b, cj_dc, ck_and, ck_or, ck_xor, ck_shl, ck_shr, ck_ushr, ck_i2l, ck_l2i, ck_cmp]) ?_
    refine xZ.jc_lt (me := xm107) hP_107 rfl (fun h2 => ?_) (fun h2 => ?_)
    · skip
      exact xZ.sub (xsc (.tail _ (.tail _ (.tail _ (.head _)))) (xsc (.head _) xsn)) (show ([3, 2, 0, 1] : List Nat).Nodup from by decide) (k_f_Zone_switchIn_51 O f d v1 ((x2 + x4) + (7 * (x5 - 1))) M3)
    · skip
      refine xZ.adv (me := xm107) hP_107 1 (pc' := 51) (lv' := [(3, .int ((yw ((x2 + x4) + (7 * (x5 - 1)))) + (-7 : Int32))), (2, .int (yw x2)), (0, .int (yw v0)), (1, .ref v1)]) (st' := []) rfl ?_
      refine xZ.eqs (lv2 := [(3, .int (yw (((x2 + x4) + (7 * (x5 - 1))) + (-7)))), (2, .int (yw x2)), (0, .int (yw v0)), (1, .ref v1)]) (st2 := []) (by simp only [yl_lit, yL_lit, yw_add, yw_sub, yw_mul, yw_neg, yl_add, yl_sub, yl_mul, cj_and, cj_or, cj_xor, cj_shl, cj_shr, cj_ushr, cj_div, cj_i2c, cj_i2b, cj_dc, ck_and, ck_or, ck_xor, ck_shl, ck_shr, ck_ushr, ck_i2l, ck_l2i, ck_cmp]) rfl ?_
      refine xZ.letI (v := (((x2 + x4) + (7 * (x5 - 1))) + (-7))) (lvf := fun x7 => [(3, .int (yw x7)), (2, .int (yw x2)), (0, .int (yw v0)), (1, .ref v1)]) (stf := fun x7 => []) ?_
      intro x7
      exact xZ.sub (xsc (.tail _ (.tail _ (.tail _ (.head _)))) (xsc (.head _) xsn)) (show ([3, 2, 0, 1] : List Nat).Nodup from by decide) (k_f_Zone_switchIn_51 O f d v1 x7 M3)
  · skip
    refine xZ.adv (me := xm107) hP_107 1 (pc' := 8) (lv' := [(0, .int (yw v0)), (1, .ref v1)]) (st' := [.int (1000000000 : Int32)]) rfl ?_
    refine xZ.eqs (lv2 := [(0, .int (yw v0)), (1, .ref v1)]) (st2 := [.int (yw 1000000000)]) rfl (by simp only [yl_lit, yL_lit, yw_add, yw_sub, yw_mul, yw_neg, yl_add, yl_sub, yl_mul, cj_and, cj_or, cj_xor, cj_shl, cj_shr, cj_ushr, cj_div, cj_i2c, cj_i2b, cj_dc, ck_and, ck_or, ck_xor, ck_shl, ck_shr, ck_ushr, ck_i2l, ck_l2i, ck_cmp]) ?_
    exact xZ.jreti (me := xm107) hP_107 rfl rfl
def f_Zone_isSummer_150 (O : Nat → Option va_E) (f : Nat) (s0 : Int) (s1 : Int) (M : xM) : Option (Int × xM) :=
  if yw s0 = yw s1 then (
    some (1, M)
  ) else
  some (0, M)
set_option maxRecDepth 20000 in
theorem k_f_Zone_isSummer_150 (O : Nat → Option va_E) (f d : Nat) (s0 : Int) (s1 : Int) (M : xM) : xZ oJ O (d + 2) 106 150 [] [.int (yw s1), .int (yw s0)] M (f_Zone_isSummer_150 O f s0 s1 M) := by
  unfold f_Zone_isSummer_150
  refine xZ.jc_ne (me := xm106) hP_106 rfl (fun h1 => ?_) (fun h1 => ?_)
  · skip
    refine xZ.adv (me := xm106) hP_106 2 (pc' := 158) (lv' := []) (st' := [.int (1 : Int32)]) rfl ?_
    refine xZ.eqs (lv2 := []) (st2 := [.int (yw 1)]) rfl (by simp only [yl_lit, yL_lit, yw_add, yw_sub, yw_mul, yw_neg, yl_add, yl_sub, yl_mul, cj_and, cj_or, cj_xor, cj_shl, cj_shr, cj_ushr, cj_div, cj_i2c, cj_i2b, cj_dc, ck_and, ck_or, ck_xor, ck_shl, ck_shr, ck_ushr, ck_i2l, ck_l2i, ck_cmp]) ?_
    exact xZ.jrete (me := xm106) hP_106 rfl rfl rfl
  · skip
    refine xZ.adv (me := xm106) hP_106 1 (pc' := 158) (lv' := []) (st' := [.int (0 : Int32)]) rfl ?_
    refine xZ.eqs (lv2 := []) (st2 := [.int (yw 0)]) rfl (by simp only [yl_lit, yL_lit, yw_add, yw_sub, yw_mul, yw_neg, yl_add, yl_sub, yl_mul, cj_and, cj_or, cj_xor, cj_shl, cj_shr, cj_ushr, cj_div, cj_i2c, cj_i2b, cj_dc, ck_and, ck_or, ck_xor, ck_shl, ck_shr, ck_ushr, ck_i2l, ck_l2i, ck_cmp]) ?_
    exact xZ.jrete (me := xm106) hP_106 rfl rfl rfl
def f_Zone_isSummer_126 (O : Nat → Option va_E) (f : Nat) (v0 : Nat) (s0 : Int) (M : xM) : Option (Int × xM) :=
  (gR O M v0 11 2).bind fun x1 =>
  (aJ O M x1 0).bind fun x2 =>
  (gR O M v0 11 3).bind fun x3 =>
  (aJ O M x3 0).bind fun x4 =>
  if yw x4 ≤ yw x2 then (
    f_Zone_isSummer_150 O f s0 0 M
  ) else
  f_Zone_isSummer_150 O f s0 1 M
set_option maxRecDepth 20000 in
theorem k_f_Zone_isSummer_126 (O : Nat → Option va_E) (f d : Nat) (v0 : Nat) (s0 : Int) (M : xM) : xZ oJ O (d + 2) 106 126 [(0, .ref v0)] [.int (yw s0)] M (f_Zone_isSummer_126 O f v0 s0 M) := by
  unfold f_Zone_isSummer_126
  refine xZ.adv (me := xm106) hP_106 3 (pc' := 131) (lv' := [(4, .int (yw s0)), (0, .ref v0)]) (st' := [.ref v0, .int (yw s0)]) rfl ?_
  refine xZ.k_gR (me := xm106) hP_106 rfl (fun x1 => ?_)
  refine xZ.adv (me := xm106) hP_106 1 (pc' := 135) (lv' := [(4, .int (yw s0)), (0, .ref v0)]) (st' := [.int (0 : Int32), .ref x1, .int (yw s0)]) rfl ?_
  refine xZ.eqs (lv2 := [(4, .int (yw s0)), (0, .ref v0)]) (st2 := [.int (yw 0), .ref x1, .int (yw s0)]) rfl (by simp only [yl_lit, yL_lit, yw_add, yw_sub, yw_mul, yw_neg, yl_add, yl_sub, yl_mul, cj_and, cj_or, cj_xor, cj_shl, cj_shr, cj_ushr, cj_div, cj_i2c, cj_i2b, cj_dc, ck_and, ck_or, ck_xor, ck_shl, ck_shr, ck_ushr, ck_i2l, ck_l2i, ck_cmp]) ?_
  refine xZ.k_aJ (me := xm106) hP_106 rfl (fun x2 => ?_)
  refine xZ.adv (me := xm106) hP_106 1 (pc' := 137) (lv' := [(4, .int (yw s0)), (0, .ref v0)]) (st' := [.ref v0, .int (yw x2), .int (yw s0)]) rfl ?_
  refine xZ.k_gR (me := xm106) hP_106 rfl (fun x3 => ?_)
  refine xZ.adv (me := xm106) hP_106 1 (pc' := 141) (lv' := [(4, .int (yw s0)), (0, .ref v0)]) (st' := [.int (0 : Int32), .ref x3, .int (yw x2), .int (yw s0)]) rfl ?_
  refine xZ.eqs (lv2 := [(4, .int (yw s0)), (0, .ref v0)]) (st2 := [.int (yw 0), .ref x3, .int (yw x2), .int (yw s0)]) rfl (by simp only [yl_lit, yL_lit, yw_add, yw_sub, yw_mul, yw_neg, yl_add, yl_sub, yl_mul, cj_and, cj_or, cj_xor, cj_shl, cj_shr, cj_ushr, cj_div, cj_i2c, cj_i2b, cj_dc, ck_and, ck_or, ck_xor, ck_shl, ck_shr, ck_ushr, ck_i2l, ck_l2i, ck_cmp]) ?_
  refine xZ.k_aJ (me := xm106) hP_106 rfl (fun x4 => ?_)
  refine xZ.jc_ge (me := xm106) hP_106 rfl (fun h1 => ?_) (fun h1 => ?_)
  · skip
    refine xZ.adv (me := xm106) hP_106 1 (pc' := 150) (lv' := [(4, .int (yw s0)), (0, .ref v0)]) (st' := [.int (0 : Int32), .int (yw s0)]) rfl ?_
    refine xZ.eqs (lv2 := [(4, .int (yw s0)), (0, .ref v0)]) (st2 := [.int (yw 0), .int (yw s0)]) rfl (by simp only [yl_lit, yL_lit, yw_add, yw_sub, yw_mul, yw_neg, yl_add, yl_sub, yl_mul, cj_and, cj_or, cj_xor, cj_shl, cj_shr, cj_ushr, cj_div, cj_i2c, cj_i2b, cj_dc, ck_and, ck_or, ck_xor, ck_shl, ck_shr, ck_ushr, ck_i2l, ck_l2i, ck_cmp]) ?_
    exact xZ.sub xsn (show ([4, 0] : List Nat).Nodup from by decide) (k_f_Zone_isSummer_150 O f d s0 0 M)
  · skip
    refine xZ.adv (me := xm106) hP_106 2 (pc' := 150) (lv' := [(4, .int (yw s0)), (0, .ref v0)]) (st' := [.int (1 : Int32), .int (yw s0)]) rfl ?_
    refine xZ.eqs (lv2 := [(4, .int (yw s0)), (0, .ref v0)]) (st2 := [.int (yw 1), .int (yw s0)]) rfl (by simp only [yl_lit, yL_lit, yw_add, yw_sub, yw_mul, yw_neg, yl_add, yl_sub, yl_mul, cj_and, cj_or, cj_xor, cj_shl, cj_shr, cj_ushr, cj_div, cj_i2c, cj_i2b, cj_dc, ck_and, ck_or, ck_xor, ck_shl, ck_shr, ck_ushr, ck_i2l, ck_l2i, ck_cmp]) ?_
    exact xZ.sub xsn (show ([4, 0] : List Nat).Nodup from by decide) (k_f_Zone_isSummer_150 O f d s0 1 M)
def f_Zone_isSummer_125 (O : Nat → Option va_E) (f : Nat) (v0 : Nat) (M : xM) : Option (Int × xM) :=
  f_Zone_isSummer_126 O f v0 0 M
set_option maxRecDepth 20000 in
theorem k_f_Zone_isSummer_125 (O : Nat → Option va_E) (f d : Nat) (v0 : Nat) (M : xM) : xZ oJ O (d + 2) 106 125 [(0, .ref v0)] [] M (f_Zone_isSummer_125 O f v0 M) := by
  unfold f_Zone_isSummer_125
  refine xZ.adv (me := xm106) hP_106 1 (pc' := 126) (lv' := [(0, .ref v0)]) (st' := [.int (0 : Int32)]) rfl ?_
  refine xZ.eqs (lv2 := [(0, .ref v0)]) (st2 := [.int (yw 0)]) rfl (by simp only [yl_lit, yL_lit, yw_add, yw_sub, yw_mul, yw_neg, yl_add, yl_sub, yl_mul, cj_and, cj_or, cj_xor, cj_shl, cj_shr, cj_ushr, cj_div, cj_i2c, cj_i2b, cj_dc, ck_and, ck_or, ck_xor, ck_shl, ck_shr, ck_ushr, ck_i2l, ck_l2i, ck_cmp]) ?_
  exact (k_f_Zone_isSummer_126 O f d v0 0 M)
def f_Zone_isSummer (O : Nat → Option va_E) (f : Nat) (v0 : Nat) (v1 : Int) (M : xM) : Option (Int × xM) :=
  (gJ O M v0 11 1).bind fun x1 =>
  if yw x1 = yw 0 then (
    some (0, M)
  ) else
  xcl (f_Math_floorDiv O f v1 1440 M) fun x2 M1 =>
  xcl (f_Days_monthOf O f x2 M1) fun x3 M2 =>
  xlet ((x3 - (jdiv x3 12) * 12) + 1) fun x4 =>
  (gR O M2 v0 11 2).bind fun x5 =>
  (aJ O M2 x5 0).bind fun x6 =>
  if yw x4 = yw x6 then (
    (gR O M2 v0 11 2).bind fun x7 =>
    xcl (f_Zone_switchIn O f x3 x7 M2) fun x8 M3 =>
    if yw v1 < yw x8 then (
      some (0, M3)
    ) else
    some (1, M3)
  ) else
  (gR O M2 v0 11 3).bind fun x9 =>
  (aJ O M2 x9 0).bind fun x10 =>
  if yw x4 = yw x10 then (
    (gR O M2 v0 11 3).bind fun x11 =>
    xcl (f_Zone_switchIn O f x3 x11 M2) fun x12 M4 =>
    if yw x12 ≤ yw v1 then (
      some (0, M4)
    ) else
    some (1, M4)
  ) else
  (gR O M2 v0 11 2).bind fun x13 =>
  (aJ O M2 x13 0).bind fun x14 =>
  (gR O M2 v0 11 3).bind fun x15 =>
  (aJ O M2 x15 0).bind fun x16 =>
  xcl (f_Math_min O f x14 x16 M2) fun x17 M5 =>
  if yw x4 ≤ yw x17 then (
    f_Zone_isSummer_125 O f v0 M5
  ) else
  (gR O M5 v0 11 2).bind fun x18 =>
  (aJ O M5 x18 0).bind fun x19 =>
  (gR O M5 v0 11 3).bind fun x20 =>
  (aJ O M5 x20 0).bind fun x21 =>
  xcl (f_Math_max O f x19 x21 M5) fun x22 M6 =>
  if yw x22 ≤ yw x4 then (
    f_Zone_isSummer_125 O f v0 M6
  ) else
  f_Zone_isSummer_126 O f v0 1 M6
set_option maxRecDepth 20000 in
theorem k_f_Zone_isSummer (O : Nat → Option va_E) (f d : Nat) (v0 : Nat) (v1 : Int) (M : xM) : xZ oJ O (d + 2) 106 0 [(0, .ref v0), (1, .int (yw v1))] [] M (f_Zone_isSummer O f v0 v1 M) := by
  unfold f_Zone_isSummer
  refine xZ.adv (me := xm106) hP_106 1 (pc' := 1) (lv' := [(0, .ref v0), (1, .int (yw v1))]) (st' := [.ref v0]) rfl ?_
  refine xZ.k_gJ (me := xm106) hP_106 rfl (fun x1 => ?_)
  refine xZ.jf_ne (me := xm106) hP_106 rfl (fun h1 => ?_) (fun h1 => ?_)
  · skip
    refine xZ.adv (me := xm106) hP_106 1 (pc' := 8) (lv' := [(0, .ref v0), (1, .int (yw v1))]) (st' := [.int (0 : Int32)]) rfl ?_
    refine xZ.eqs (lv2 := [(0, .ref v0), (1, .int (yw v1))]) (st2 := [.int (yw 0)]) rfl (by simp only [yl_lit, yL_lit, yw_add, yw_sub, yw_mul, yw_neg, yl_add, yl_sub, yl_mul, cj_and, cj_or, cj_xor, cj_shl, cj_shr, cj_ushr, cj_div, cj_i2c, cj_i2b, cj_dc, ck_and, ck_or, ck_xor, ck_shl, ck_shr, ck_ushr, ck_i2l, ck_l2i, ck_cmp]) ?_
    exact xZ.jrete (me := xm106) hP_106 rfl rfl rfl
  · skip
    refine xZ.adv (me := xm106) hP_106 2 (pc' := 13) (lv' := [(0, .ref v0), (1, .int (yw v1))]) (st' := [.int (1440 : Int32), .int (yw v1)]) rfl ?_
    refine xZ.eqs (lv2 := [(0, .ref v0), (1, .int (yw v1))]) (st2 := [.int (yw 1440), .int (yw v1)]) rfl (by simp only [yl_lit, yL_lit, yw_add, yw_sub, yw_mul, yw_neg, yl_add, yl_sub, yl_mul, cj_and, cj_or, cj_xor, cj_shl, cj_shr, cj_ushr, cj_div, cj_i2c, cj_i2b, cj_dc, ck_and, ck_or, ck_xor, ck_shl, ck_shr, ck_ushr, ck_i2l, ck_l2i, ck_cmp]) ?_
    refine xZ.calls (κ := oJ) (av := [.int (yw v1), .int (yw 1440)]) (rest := []) (st' := fun x2 => [.int (yw x2)]) (me := xm106) hP_106 rfl rfl rfl (Nat.le_of_ble_eq_true rfl) (by decide) hP_251 (Nat.le_of_ble_eq_true rfl) (fun _ => rfl) (k_f_Math_floorDiv O f (d + 1) v1 1440 M) (fun x2 M1 => ?_)
    refine xZ.calls (κ := oJ) (av := [.int (yw x2)]) (rest := []) (st' := fun x3 => [.int (yw x3)]) (me := xm106) hP_106 rfl rfl rfl (Nat.le_of_ble_eq_true rfl) (by decide) hP_52 (Nat.le_of_ble_eq_true rfl) (fun _ => rfl) (k_f_Days_monthOf O f (d + 1) x2 M1) (fun x3 M2 => ?_)
    refine xZ.adv (me := xm106) hP_106 7 (pc' := 27) (lv' := [(3, .int (((yw x3) - (yw x3) / (12 : Int32) * (12 : Int32)) + (1 : Int32))), (2, .int (yw x3)), (0, .ref v0), (1, .int (yw v1))]) (st' := []) rfl ?_
    refine xZ.eqs (lv2 := [(3, .int (yw ((x3 - (jdiv x3 12) * 12) + 1))), (2, .int (yw x3)), (0, .ref v0), (1, .int (yw v1))]) (st2 := []) (by simp only [yl_lit, yL_lit, yw_add, yw_sub, yw_mul, yw_neg, yl_add, yl_sub, yl_mul, cj_and, cj_or, cj_xor, cj_shl, cj_shr, cj_ushr, cj_div, cj_i2c, cj_i2b, cj_dc, ck_and, ck_or, ck_xor, ck_shl, ck_shr, ck_ushr, ck_i2l, ck_l2i, ck_cmp]) rfl ?_
    refine xZ.letI (v := ((x3 - (jdiv x3 12) * 12) + 1)) (lvf := fun x4 => [(3, .int (yw x4)), (2, .int (yw x3)), (0, .ref v0), (1, .int (yw v1))]) (stf := fun x4 => []) ?_
    intro x4
    refine xZ.adv (me := xm106) hP_106 2 (pc' := 29) (lv' := [(3, .int (yw x4)), (2, .int (yw x3)), (0, .ref v0), (1, .int (yw v1))]) (st' := [.ref v0, .int (yw x4)]) rfl ?_
    refine xZ.k_gR (me := xm106) hP_106 rfl (fun x5 => ?_)
    refine xZ.adv (me := xm106) hP_106 1 (pc' := 33) (lv' := [(3, .int (yw x4)), (2, .int (yw x3)), (0, .ref v0), (1, .int (yw v1))]) (st' := [.int (0 : Int32), .ref x5, .int (yw x4)]) rfl ?_
    refine xZ.eqs (lv2 := [(3, .int (yw x4)), (2, .int (yw x3)), (0, .ref v0), (1, .int (yw v1))]) (st2 := [.int (yw 0), .ref x5, .int (yw x4)]) rfl (by simp only [yl_lit, yL_lit, yw_add, yw_sub, yw_mul, yw_neg, yl_add, yl_sub, yl_mul, cj_and, cj_or, cj_xor, cj_shl, cj_shr, cj_ushr, cj_div, cj_i2c, cj_i2b, cj_dc, ck_and, ck_or, ck_xor, ck_shl, ck_shr, ck_ushr, ck_i2l, ck_l2i, ck_cmp]) ?_
    refine xZ.k_aJ (me := xm106) hP_106 rfl (fun x6 => ?_)
    refine xZ.jc_ne (me := xm106) hP_106 rfl (fun h2 => ?_) (fun h2 => ?_)
    · skip
      refine xZ.adv (me := xm106) hP_106 3 (pc' := 40) (lv' := [(3, .int (yw x4)), (2, .int (yw x3)), (0, .ref v0), (1, .int (yw v1))]) (st' := [.ref v0, .int (yw x3), .int (yw v1)]) rfl ?_
      refine xZ.k_gR (me := xm106) hP_106 rfl (fun x7 => ?_)
      refine xZ.calls (κ := oJ) (av := [.int (yw x3), .ref x7]) (rest := [.int (yw v1)]) (st' := fun x8 => [.int (yw x8), .int (yw v1)]) (me := xm106) hP_106 rfl rfl rfl (Nat.le_of_ble_eq_true rfl) (by decide) hP_107 (Nat.le_of_ble_eq_true rfl) (fun _ => rfl) (k_f_Zone_switchIn O f (d + 0) x3 x7 M2) (fun x8 M3 => ?_)
      refine xZ.jc_lt (me := xm106) hP_106 rfl (fun h3 => ?_) (fun h3 => ?_)
      · skip
        refine xZ.adv (me := xm106) hP_106 1 (pc' := 54) (lv' := [(3, .int (yw x4)), (2, .int (yw x3)), (0, .ref v0), (1, .int (yw v1))]) (st' := [.int (0 : Int32)]) rfl ?_
        refine xZ.eqs (lv2 := [(3, .int (yw x4)), (2, .int (yw x3)), (0, .ref v0), (1, .int (yw v1))]) (st2 := [.int (yw 0)]) rfl (by simp only [yl_lit, yL_lit, yw_add, yw_sub, yw_mul, yw_neg, yl_add, yl_sub, yl_mul, cj_and, cj_or, cj_xor, cj_shl, cj_shr, cj_ushr, cj_div, cj_i2c, cj_i2b, cj_dc, ck_and, ck_or, ck_xor, ck_shl, ck_shr, ck_ushr, ck_i2l, ck_l2i, ck_cmp]) ?_
        exact xZ.jrete (me := xm106) hP_106 rfl rfl rfl
      · skip
        refine xZ.adv (me := xm106) hP_106 2 (pc' := 54) (lv' := [(3, .int (yw x4)), (2, .int (yw x3)), (0, .ref v0), (1, .int (yw v1))]) (st' := [.int (1 : Int32)]) rfl ?_
        refine xZ.eqs (lv2 := [(3, .int (yw x4)), (2, .int (yw x3)), (0, .ref v0), (1, .int (yw v1))]) (st2 := [.int (yw 1)]) rfl (by simp only [yl_lit, yL_lit, yw_add, yw_sub, yw_mul, yw_neg, yl_add, yl_sub, yl_mul, cj_and, cj_or, cj_xor, cj_shl, cj_shr, cj_ushr, cj_div, cj_i2c, cj_i2b, cj_dc, ck_and, ck_or, ck_xor, ck_shl, ck_shr, ck_ushr, ck_i2l, ck_l2i, ck_cmp]) ?_
        exact xZ.jrete (me := xm106) hP_106 rfl rfl rfl
    · skip
      refine xZ.adv (me := xm106) hP_106 2 (pc' := 57) (lv' := [(3, .int (yw x4)), (2, .int (yw x3)), (0, .ref v0), (1, .int (yw v1))]) (st' := [.ref v0, .int (yw x4)]) rfl ?_
      refine xZ.k_gR (me := xm106) hP_106 rfl (fun x9 => ?_)
      refine xZ.adv (me := xm106) hP_106 1 (pc' := 61) (lv' := [(3, .int (yw x4)), (2, .int (yw x3)), (0, .ref v0), (1, .int (yw v1))]) (st' := [.int (0 : Int32), .ref x9, .int (yw x4)]) rfl ?_
      refine xZ.eqs (lv2 := [(3, .int (yw x4)), (2, .int (yw x3)), (0, .ref v0), (1, .int (yw v1))]) (st2 := [.int (yw 0), .ref x9, .int (yw x4)]) rfl (by simp only [yl_lit, yL_lit, yw_add, yw_sub, yw_mul, yw_neg, yl_add, yl_sub, yl_mul, cj_and, cj_or, cj_xor, cj_shl, cj_shr, cj_ushr, cj_div, cj_i2c, cj_i2b, cj_dc, ck_and, ck_or, ck_xor, ck_shl, ck_shr, ck_ushr, ck_i2l, ck_l2i, ck_cmp]) ?_
      refine xZ.k_aJ (me := xm106) hP_106 rfl (fun x10 => ?_)
      refine xZ.jc_ne (me := xm106) hP_106 rfl (fun h4 => ?_) (fun h4 => ?_)
      · skip
        refine xZ.adv (me := xm106) hP_106 3 (pc' := 68) (lv' := [(3, .int (yw x4)), (2, .int (yw x3)), (0, .ref v0), (1, .int (yw v1))]) (st' := [.ref v0, .int (yw x3), .int (yw v1)]) rfl ?_
        refine xZ.k_gR (me := xm106) hP_106 rfl (fun x11 => ?_)
        refine xZ.calls (κ := oJ) (av := [.int (yw x3), .ref x11]) (rest := [.int (yw v1)]) (st' := fun x12 => [.int (yw x12), .int (yw v1)]) (me := xm106) hP_106 rfl rfl rfl (Nat.le_of_ble_eq_true rfl) (by decide) hP_107 (Nat.le_of_ble_eq_true rfl) (fun _ => rfl) (k_f_Zone_switchIn O f (d + 0) x3 x11 M2) (fun x12 M4 => ?_)
        refine xZ.jc_ge (me := xm106) hP_106 rfl (fun h5 => ?_) (fun h5 => ?_)
        · skip
          refine xZ.adv (me := xm106) hP_106 1 (pc' := 82) (lv' := [(3, .int (yw x4)), (2, .int (yw x3)), (0, .ref v0), (1, .int (yw v1))]) (st' := [.int (0 : Int32)]) rfl ?_
          refine xZ.eqs (lv2 := [(3, .int (yw x4)), (2, .int (yw x3)), (0, .ref v0), (1, .int (yw v1))]) (st2 := [.int (yw 0)]) rfl (by simp only [yl_lit, yL_lit, yw_add, yw_sub, yw_mul, yw_neg, yl_add, yl_sub, yl_mul, cj_and, cj_or, cj_xor, cj_shl, cj_shr, cj_ushr, cj_div, cj_i2c, cj_i2b, cj_dc, ck_and, ck_or, ck_xor, ck_shl, ck_shr, ck_ushr, ck_i2l, ck_l2i, ck_cmp]) ?_
          exact xZ.jrete (me := xm106) hP_106 rfl rfl rfl
        · skip
          refine xZ.adv (me := xm106) hP_106 2 (pc' := 82) (lv' := [(3, .int (yw x4)), (2, .int (yw x3)), (0, .ref v0), (1, .int (yw v1))]) (st' := [.int (1 : Int32)]) rfl ?_
          refine xZ.eqs (lv2 := [(3, .int (yw x4)), (2, .int (yw x3)), (0, .ref v0), (1, .int (yw v1))]) (st2 := [.int (yw 1)]) rfl (by simp only [yl_lit, yL_lit, yw_add, yw_sub, yw_mul, yw_neg, yl_add, yl_sub, yl_mul, cj_and, cj_or, cj_xor, cj_shl, cj_shr, cj_ushr, cj_div, cj_i2c, cj_i2b, cj_dc, ck_and, ck_or, ck_xor, ck_shl, ck_shr, ck_ushr, ck_i2l, ck_l2i, ck_cmp]) ?_
          exact xZ.jrete (me := xm106) hP_106 rfl rfl rfl
      · skip
        refine xZ.adv (me := xm106) hP_106 2 (pc' := 85) (lv' := [(3, .int (yw x4)), (2, .int (yw x3)), (0, .ref v0), (1, .int (yw v1))]) (st' := [.ref v0, .int (yw x4)]) rfl ?_
        refine xZ.k_gR (me := xm106) hP_106 rfl (fun x13 => ?_)
        refine xZ.adv (me := xm106) hP_106 1 (pc' := 89) (lv' := [(3, .int (yw x4)), (2, .int (yw x3)), (0, .ref v0), (1, .int (yw v1))]) (st' := [.int (0 : Int32), .ref x13, .int (yw x4)]) rfl ?_
        refine xZ.eqs (lv2 := [(3, .int (yw x4)), (2, .int (yw x3)), (0, .ref v0), (1, .int (yw v1))]) (st2 := [.int (yw 0), .ref x13, .int (yw x4)]) rfl (by simp only [yl_lit, yL_lit, yw_add, yw_sub, yw_mul, yw_neg, yl_add, yl_sub, yl_mul, cj_and, cj_or, cj_xor, cj_shl, cj_shr, cj_ushr, cj_div, cj_i2c, cj_i2b, cj_dc, ck_and, ck_or, ck_xor, ck_shl, ck_shr, ck_ushr, ck_i2l, ck_l2i, ck_cmp]) ?_
        refine xZ.k_aJ (me := xm106) hP_106 rfl (fun x14 => ?_)
        refine xZ.adv (me := xm106) hP_106 1 (pc' := 91) (lv' := [(3, .int (yw x4)), (2, .int (yw x3)), (0, .ref v0), (1, .int (yw v1))]) (st' := [.ref v0, .int (yw x14), .int (yw x4)]) rfl ?_
        refine xZ.k_gR (me := xm106) hP_106 rfl (fun x15 => ?_)
        refine xZ.adv (me := xm106) hP_106 1 (pc' := 95) (lv' := [(3, .int (yw x4)), (2, .int (yw x3)), (0, .ref v0), (1, .int (yw v1))]) (st' := [.int (0 : Int32), .ref x15, .int (yw x14), .int (yw x4)]) rfl ?_
        refine xZ.eqs (lv2 := [(3, .int (yw x4)), (2, .int (yw x3)), (0, .ref v0), (1, .int (yw v1))]) (st2 := [.int (yw 0), .ref x15, .int (yw x14), .int (yw x4)]) rfl (by simp only [yl_lit, yL_lit, yw_add, yw_sub, yw_mul, yw_neg, yl_add, yl_sub, yl_mul, cj_and, cj_or, cj_xor, cj_shl, cj_shr, cj_ushr, cj_div, cj_i2c, cj_i2b, cj_dc, ck_and, ck_or, ck_xor, ck_shl, ck_shr, ck_ushr, ck_i2l, ck_l2i, ck_cmp]) ?_
        refine xZ.k_aJ (me := xm106) hP_106 rfl (fun x16 => ?_)
        refine xZ.calls (κ := oJ) (av := [.int (yw x14), .int (yw x16)]) (rest := [.int (yw x4)]) (st' := fun x17 => [.int (yw x17), .int (yw x4)]) (me := xm106) hP_106 rfl rfl rfl (Nat.le_of_ble_eq_true rfl) (by decide) hP_248 (Nat.le_of_ble_eq_true rfl) (fun _ => rfl) (k_f_Math_min O f (d + 1) x14 x16 M2) (fun x17 M5 => ?_)
        refine xZ.jc_le (me := xm106) hP_106 rfl (fun h6 => ?_) (fun h6 => ?_)
        · skip
          exact xZ.sub (xsc (.tail _ (.tail _ (.head _))) xsn) (show ([3, 2, 0, 1] : List Nat).Nodup from by decide) (k_f_Zone_isSummer_125 O f d v0 M5)
        · skip
          refine xZ.adv (me := xm106) hP_106 2 (pc' := 104) (lv' := [(3, .int (yw x4)), (2, .int (yw x3)), (0, .ref v0), (1, .int (yw v1))]) (st' := [.ref v0, .int (yw x4)]) rfl ?_
          refine xZ.k_gR (me := xm106) hP_106 rfl (fun x18 => ?_)
          refine xZ.adv (me := xm106) hP_106 1 (pc' := 108) (lv' := [(3, .int (yw x4)), (2, .int (yw x3)), (0, .ref v0), (1, .int (yw v1))]) (st' := [.int (0 : Int32), .ref x18, .int (yw x4)]) rfl ?_
          refine xZ.eqs (lv2 := [(3, .int (yw x4)), (2, .int (yw x3)), (0, .ref v0), (1, .int (yw v1))]) (st2 := [.int (yw 0), .ref x18, .int (yw x4)]) rfl (by simp only [yl_lit, yL_lit, yw_add, yw_sub, yw_mul, yw_neg, yl_add, yl_sub, yl_mul, cj_and, cj_or, cj_xor, cj_shl, cj_shr, cj_ushr, cj_div, cj_i2c, cj_i2b, cj_dc, ck_and, ck_or, ck_xor, ck_shl, ck_shr, ck_ushr, ck_i2l, ck_l2i, ck_cmp]) ?_
          refine xZ.k_aJ (me := xm106) hP_106 rfl (fun x19 => ?_)
          refine xZ.adv (me := xm106) hP_106 1 (pc' := 110) (lv' := [(3, .int (yw x4)), (2, .int (yw x3)), (0, .ref v0), (1, .int (yw v1))]) (st' := [.ref v0, .int (yw x19), .int (yw x4)]) rfl ?_
          refine xZ.k_gR (me := xm106) hP_106 rfl (fun x20 => ?_)
          refine xZ.adv (me := xm106) hP_106 1 (pc' := 114) (lv' := [(3, .int (yw x4)), (2, .int (yw x3)), (0, .ref v0), (1, .int (yw v1))]) (st' := [.int (0 : Int32), .ref x20, .int (yw x19), .int (yw x4)]) rfl ?_
          refine xZ.eqs (lv2 := [(3, .int (yw x4)), (2, .int (yw x3)), (0, .ref v0), (1, .int (yw v1))]) (st2 := [.int (yw 0), .ref x20, .int (yw x19), .int (yw x4)]) rfl (by simp only [yl_lit, yL_lit, yw_add, yw_sub, yw_mul, yw_neg, yl_add, yl_sub, yl_mul, cj_and, cj_or, cj_xor, cj_shl, cj_shr, cj_ushr, cj_div, cj_i2c, cj_i2b, cj_dc, ck_and, ck_or, ck_xor, ck_shl, ck_shr, ck_ushr, ck_i2l, ck_l2i, ck_cmp]) ?_
          refine xZ.k_aJ (me := xm106) hP_106 rfl (fun x21 => ?_)
          refine xZ.calls (κ := oJ) (av := [.int (yw x19), .int (yw x21)]) (rest := [.int (yw x4)]) (st' := fun x22 => [.int (yw x22), .int (yw x4)]) (me := xm106) hP_106 rfl rfl rfl (Nat.le_of_ble_eq_true rfl) (by decide) hP_247 (Nat.le_of_ble_eq_true rfl) (fun _ => rfl) (k_f_Math_max O f (d + 1) x19 x21 M5) (fun x22 M6 => ?_)
          refine xZ.jc_ge (me := xm106) hP_106 rfl (fun h7 => ?_) (fun h7 => ?_)
          · skip
            exact xZ.sub (xsc (.tail _ (.tail _ (.head _))) xsn) (show ([3, 2, 0, 1] : List Nat).Nodup from by decide) (k_f_Zone_isSummer_125 O f d v0 M6)
          · skip
            refine xZ.adv (me := xm106) hP_106 2 (pc' := 126) (lv' := [(3, .int (yw x4)), (2, .int (yw x3)), (0, .ref v0), (1, .int (yw v1))]) (st' := [.int (1 : Int32)]) rfl ?_
            refine xZ.eqs (lv2 := [(3, .int (yw x4)), (2, .int (yw x3)), (0, .ref v0), (1, .int (yw v1))]) (st2 := [.int (yw 1)]) rfl (by simp only [yl_lit, yL_lit, yw_add, yw_sub, yw_mul, yw_neg, yl_add, yl_sub, yl_mul, cj_and, cj_or, cj_xor, cj_shl, cj_shr, cj_ushr, cj_div, cj_i2c, cj_i2b, cj_dc, ck_and, ck_or, ck_xor, ck_shl, ck_shr, ck_ushr, ck_i2l, ck_l2i, ck_cmp]) ?_
            exact xZ.sub (xsc (.tail _ (.tail _ (.head _))) xsn) (show ([3, 2, 0, 1] : List Nat).Nodup from by decide) (k_f_Zone_isSummer_126 O f d v0 1 M6)
