/-! ===== texts ===== -/
def f_Rule_isRight_96 (O : Nat → Option va_E) (f : Nat) (K16 : Nat → Int → Int → Int → xM → Option (Int × xM)) (v0 : Nat) (v1 : Int) (v2 : Int) (v3 : Int) (v4 : Int) (s0 : Int) (s1 : Int) (M : xM) : Option (Int × xM) :=
  if yw s0 = yw s1 then (
    if yw v4 = yw 0 then (
      K16 v0 v1 v2 (v3 + 1) M
    ) else
    (isO O M v0 9).bind fun _ =>
    xcl (f_Rule_next O f v0 (v3 + 1) M) fun x1 M1 =>
    K16 v0 x1 v2 (v3 + 1) M1
  ) else
  some (0, M)
set_option maxRecDepth 20000 in
theorem k_f_Rule_isRight_96 (O : Nat → Option va_E) (f d : Nat) (K16 : Nat → Int → Int → Int → xM → Option (Int × xM)) (hK16 : ∀ (v0 : Nat) (v1 : Int) (v2 : Int) (v3 : Int) M, xZ oJ O (d + 5) 133 16 [(0, .ref v0), (1, .int (yw v1)), (2, .int (yw v2)), (3, .int (yw v3))] [] M (K16 v0 v1 v2 v3 M)) (v0 : Nat) (v1 : Int) (v2 : Int) (v3 : Int) (v4 : Int) (s0 : Int) (s1 : Int) (M : xM) : xZ oJ O (d + 5) 133 96 [(0, .ref v0), (1, .int (yw v1)), (2, .int (yw v2)), (3, .int (yw v3)), (4, .int (yw v4))] [.int (yw s1), .int (yw s0)] M (f_Rule_isRight_96 O f K16 v0 v1 v2 v3 v4 s0 s1 M) := by
  unfold f_Rule_isRight_96
  refine xZ.jc_eq (me := xm133) hP_133 rfl (fun h1 => ?_) (fun h1 => ?_)
  · skip
    refine xZ.adv (me := xm133) hP_133 1 (pc' := 103) (lv' := [(0, .ref v0), (1, .int (yw v1)), (2, .int (yw v2)), (3, .int (yw v3)), (4, .int (yw v4))]) (st' := [.int (yw v4)]) rfl ?_
    refine xZ.jf_eq (me := xm133) hP_133 rfl (fun h2 => ?_) (fun h2 => ?_)
    · skip
      refine xZ.adv (me := xm133) hP_133 2 (pc' := 16) (lv' := [(3, .int ((yw v3) + (1 : Int32))), (0, .ref v0), (1, .int (yw v1)), (2, .int (yw v2)), (4, .int (yw v4))]) (st' := []) rfl ?_
      refine xZ.eqs (lv2 := [(3, .int (yw (v3 + 1))), (0, .ref v0), (1, .int (yw v1)), (2, .int (yw v2)), (4, .int (yw v4))]) (st2 := []) (by simp only [yl_lit, yL_lit, yw_add, yw_sub, yw_mul, yw_neg, yl_add, yl_sub, yl_mul, cj_and, cj_or, cj_xor, cj_shl, cj_shr, cj_ushr, cj_div, cj_i2c, cj_i2b, cj_dc, ck_and, ck_or, ck_xor, ck_shl, ck_shr, ck_ushr, ck_i2l, ck_l2i, ck_cmp]) rfl ?_
      exact xZ.sub (xsc (.tail _ (.head _)) (xsc (.tail _ (.tail _ (.head _))) (xsc (.tail _ (.tail _ (.tail _ (.head _)))) (xsc (.head _) xsn)))) (show ([3, 0, 1, 2, 4] : List Nat).Nodup from by decide) (hK16 v0 v1 v2 (v3 + 1) M)
    · skip
      refine xZ.adv (me := xm133) hP_133 4 (pc' := 110) (lv' := [(0, .ref v0), (1, .int (yw v1)), (2, .int (yw v2)), (3, .int (yw v3)), (4, .int (yw v4))]) (st' := [.int ((yw v3) + (1 : Int32)), .ref v0]) rfl ?_
      refine xZ.eqs (lv2 := [(0, .ref v0), (1, .int (yw v1)), (2, .int (yw v2)), (3, .int (yw v3)), (4, .int (yw v4))]) (st2 := [.int (yw (v3 + 1)), .ref v0]) rfl (by simp only [yl_lit, yL_lit, yw_add, yw_sub, yw_mul, yw_neg, yl_add, yl_sub, yl_mul, cj_and, cj_or, cj_xor, cj_shl, cj_shr, cj_ushr, cj_div, cj_i2c, cj_i2b, cj_dc, ck_and, ck_or, ck_xor, ck_shl, ck_shr, ck_ushr, ck_i2l, ck_l2i, ck_cmp]) ?_
      refine xZ.callv (κ := oJ) (av := [.int (yw (v3 + 1))]) (rest := []) (st' := fun x1 => [.int (yw x1)]) (k0 := v0) (me := xm133) hP_133 rfl (Or.inl rfl) ⟨rfl, by decide⟩ rfl rfl (Nat.le_of_ble_eq_true rfl) (by decide) hP_45 (Nat.le_of_ble_eq_true rfl) (fun _ => rfl) (k_f_Rule_next O f (d + 0) v0 (v3 + 1) M) (fun x1 M1 => ?_)
      refine xZ.adv (me := xm133) hP_133 3 (pc' := 16) (lv' := [(3, .int ((yw v3) + (1 : Int32))), (1, .int (yw x1)), (0, .ref v0), (2, .int (yw v2)), (4, .int (yw v4))]) (st' := []) rfl ?_
      refine xZ.eqs (lv2 := [(3, .int (yw (v3 + 1))), (1, .int (yw x1)), (0, .ref v0), (2, .int (yw v2)), (4, .int (yw v4))]) (st2 := []) (by simp only [yl_lit, yL_lit, yw_add, yw_sub, yw_mul, yw_neg, yl_add, yl_sub, yl_mul, cj_and, cj_or, cj_xor, cj_shl, cj_shr, cj_ushr, cj_div, cj_i2c, cj_i2b, cj_dc, ck_and, ck_or, ck_xor, ck_shl, ck_shr, ck_ushr, ck_i2l, ck_l2i, ck_cmp]) rfl ?_
      exact xZ.sub (xsc (.tail _ (.tail _ (.head _))) (xsc (.tail _ (.head _)) (xsc (.tail _ (.tail _ (.tail _ (.head _)))) (xsc (.head _) xsn)))) (show ([3, 1, 0, 2, 4] : List Nat).Nodup from by decide) (hK16 v0 x1 v2 (v3 + 1) M1)
  · skip
    refine xZ.adv (me := xm133) hP_133 1 (pc' := 100) (lv' := [(0, .ref v0), (1, .int (yw v1)), (2, .int (yw v2)), (3, .int (yw v3)), (4, .int (yw v4))]) (st' := [.int (0 : Int32)]) rfl ?_
    refine xZ.eqs (lv2 := [(0, .ref v0), (1, .int (yw v1)), (2, .int (yw v2)), (3, .int (yw v3)), (4, .int (yw v4))]) (st2 := [.int (yw 0)]) rfl (by simp only [yl_lit, yL_lit, yw_add, yw_sub, yw_mul, yw_neg, yl_add, yl_sub, yl_mul, cj_and, cj_or, cj_xor, cj_shl, cj_shr, cj_ushr, cj_div, cj_i2c, cj_i2b, cj_dc, ck_and, ck_or, ck_xor, ck_shl, ck_shr, ck_ushr, ck_i2l, ck_l2i, ck_cmp]) ?_
    exact xZ.jrete (me := xm133) hP_133 rfl rfl rfl
def f_Rule_isRight_84 (O : Nat → Option va_E) (f : Nat) (K16 : Nat → Int → Int → Int → xM → Option (Int × xM)) (v0 : Nat) (v1 : Int) (v2 : Int) (v3 : Int) (v4 : Int) (M : xM) : Option (Int × xM) :=
  if yw v1 = yw v3 then (
    f_Rule_isRight_96 O f K16 v0 v1 v2 v3 v4 v4 1 M
  ) else
  f_Rule_isRight_96 O f K16 v0 v1 v2 v3 v4 v4 0 M
set_option maxRecDepth 20000 in
theorem k_f_Rule_isRight_84 (O : Nat → Option va_E) (f d : Nat) (K16 : Nat → Int → Int → Int → xM → Option (Int × xM)) (hK16 : ∀ (v0 : Nat) (v1 : Int) (v2 : Int) (v3 : Int) M, xZ oJ O (d + 5) 133 16 [(0, .ref v0), (1, .int (yw v1)), (2, .int (yw v2)), (3, .int (yw v3))] [] M (K16 v0 v1 v2 v3 M)) (v0 : Nat) (v1 : Int) (v2 : Int) (v3 : Int) (v4 : Int) (M : xM) : xZ oJ O (d + 5) 133 84 [(0, .ref v0), (1, .int (yw v1)), (2, .int (yw v2)), (3, .int (yw v3)), (4, .int (yw v4))] [] M (f_Rule_isRight_84 O f K16 v0 v1 v2 v3 v4 M) := by
  unfold f_Rule_isRight_84
  refine xZ.adv (me := xm133) hP_133 3 (pc' := 88) (lv' := [(0, .ref v0), (1, .int (yw v1)), (2, .int (yw v2)), (3, .int (yw v3)), (4, .int (yw v4))]) (st' := [.int (yw v3), .int (yw v1), .int (yw v4)]) rfl ?_
  refine xZ.jc_ne (me := xm133) hP_133 rfl (fun h1 => ?_) (fun h1 => ?_)
  · skip
    refine xZ.adv (me := xm133) hP_133 2 (pc' := 96) (lv' := [(0, .ref v0), (1, .int (yw v1)), (2, .int (yw v2)), (3, .int (yw v3)), (4, .int (yw v4))]) (st' := [.int (1 : Int32), .int (yw v4)]) rfl ?_
    refine xZ.eqs (lv2 := [(0, .ref v0), (1, .int (yw v1)), (2, .int (yw v2)), (3, .int (yw v3)), (4, .int (yw v4))]) (st2 := [.int (yw 1), .int (yw v4)]) rfl (by simp only [yl_lit, yL_lit, yw_add, yw_sub, yw_mul, yw_neg, yl_add, yl_sub, yl_mul, cj_and, cj_or, cj_xor, cj_shl, cj_shr, cj_ushr, cj_div, cj_i2c, cj_i2b, cj_dc, ck_and, ck_or, ck_xor, ck_shl, ck_shr, ck_ushr, ck_i2l, ck_l2i, ck_cmp]) ?_
    exact (k_f_Rule_isRight_96 O f d K16 hK16 v0 v1 v2 v3 v4 v4 1 M)
  · skip
    refine xZ.adv (me := xm133) hP_133 1 (pc' := 96) (lv' := [(0, .ref v0), (1, .int (yw v1)), (2, .int (yw v2)), (3, .int (yw v3)), (4, .int (yw v4))]) (st' := [.int (0 : Int32), .int (yw v4)]) rfl ?_
    refine xZ.eqs (lv2 := [(0, .ref v0), (1, .int (yw v1)), (2, .int (yw v2)), (3, .int (yw v3)), (4, .int (yw v4))]) (st2 := [.int (yw 0), .int (yw v4)]) rfl (by simp only [yl_lit, yL_lit, yw_add, yw_sub, yw_mul, yw_neg, yl_add, yl_sub, yl_mul, cj_and, cj_or, cj_xor, cj_shl, cj_shr, cj_ushr, cj_div, cj_i2c, cj_i2b, cj_dc, ck_and, ck_or, ck_xor, ck_shl, ck_shr, ck_ushr, ck_i2l, ck_l2i, ck_cmp]) ?_
    exact (k_f_Rule_isRight_96 O f d K16 hK16 v0 v1 v2 v3 v4 v4 0 M)
def f_Rule_isRight_81 (O : Nat → Option va_E) (f : Nat) (K16 : Nat → Int → Int → Int → xM → Option (Int × xM)) (v0 : Nat) (v1 : Int) (v2 : Int) (v3 : Int) (M : xM) : Option (Int × xM) :=
  f_Rule_isRight_84 O f K16 v0 v1 v2 v3 0 M
set_option maxRecDepth 20000 in
theorem k_f_Rule_isRight_81 (O : Nat → Option va_E) (f d : Nat) (K16 : Nat → Int → Int → Int → xM → Option (Int × xM)) (hK16 : ∀ (v0 : Nat) (v1 : Int) (v2 : Int) (v3 : Int) M, xZ oJ O (d + 5) 133 16 [(0, .ref v0), (1, .int (yw v1)), (2, .int (yw v2)), (3, .int (yw v3))] [] M (K16 v0 v1 v2 v3 M)) (v0 : Nat) (v1 : Int) (v2 : Int) (v3 : Int) (M : xM) : xZ oJ O (d + 5) 133 81 [(0, .ref v0), (1, .int (yw v1)), (2, .int (yw v2)), (3, .int (yw v3))] [] M (f_Rule_isRight_81 O f K16 v0 v1 v2 v3 M) := by
  unfold f_Rule_isRight_81
  refine xZ.adv (me := xm133) hP_133 2 (pc' := 84) (lv' := [(4, .int (0 : Int32)), (0, .ref v0), (1, .int (yw v1)), (2, .int (yw v2)), (3, .int (yw v3))]) (st' := []) rfl ?_
  refine xZ.eqs (lv2 := [(4, .int (yw 0)), (0, .ref v0), (1, .int (yw v1)), (2, .int (yw v2)), (3, .int (yw v3))]) (st2 := []) (by simp only [yl_lit, yL_lit, yw_add, yw_sub, yw_mul, yw_neg, yl_add, yl_sub, yl_mul, cj_and, cj_or, cj_xor, cj_shl, cj_shr, cj_ushr, cj_div, cj_i2c, cj_i2b, cj_dc, ck_and, ck_or, ck_xor, ck_shl, ck_shr, ck_ushr, ck_i2l, ck_l2i, ck_cmp]) rfl ?_
  exact xZ.sub (xsc (.tail _ (.head _)) (xsc (.tail _ (.tail _ (.head _))) (xsc (.tail _ (.tail _ (.tail _ (.head _)))) (xsc (.tail _ (.tail _ (.tail _ (.tail _ (.head _))))) (xsc (.head _) xsn))))) (show ([4, 0, 1, 2, 3] : List Nat).Nodup from by decide) (k_f_Rule_isRight_84 O f d K16 hK16 v0 v1 v2 v3 0 M)
def f_Rule_isRight_65 (O : Nat → Option va_E) (f : Nat) (K16 : Nat → Int → Int → Int → xM → Option (Int × xM)) (v0 : Nat) (v1 : Int) (v2 : Int) (v3 : Int) (v4 : Int) (M : xM) : Option (Int × xM) :=
  (gJ O M v0 9 5).bind fun x1 =>
  if yw x1 = yw 2 then (
    (gJ O M v0 9 6).bind fun x2 =>
    if yw v3 ≤ yw x2 then (
      f_Rule_isRight_84 O f K16 v0 v1 v2 v3 v4 M
    ) else
    f_Rule_isRight_81 O f K16 v0 v1 v2 v3 M
  ) else
  f_Rule_isRight_84 O f K16 v0 v1 v2 v3 v4 M
set_option maxRecDepth 20000 in
theorem k_f_Rule_isRight_65 (O : Nat → Option va_E) (f d : Nat) (K16 : Nat → Int → Int → Int → xM → Option (Int × xM)) (hK16 : ∀ (v0 : Nat) (v1 : Int) (v2 : Int) (v3 : Int) M, xZ oJ O (d + 5) 133 16 [(0, .ref v0), (1, .int (yw v1)), (2, .int (yw v2)), (3, .int (yw v3))] [] M (K16 v0 v1 v2 v3 M)) (v0 : Nat) (v1 : Int) (v2 : Int) (v3 : Int) (v4 : Int) (M : xM) : xZ oJ O (d + 5) 133 65 [(0, .ref v0), (1, .int (yw v1)), (2, .int (yw v2)), (3, .int (yw v3)), (4, .int (yw v4))] [] M (f_Rule_isRight_65 O f K16 v0 v1 v2 v3 v4 M) := by
  unfold f_Rule_isRight_65
  refine xZ.adv (me := xm133) hP_133 1 (pc' := 66) (lv' := [(0, .ref v0), (1, .int (yw v1)), (2, .int (yw v2)), (3, .int (yw v3)), (4, .int (yw v4))]) (st' := [.ref v0]) rfl ?_
  refine xZ.k_gJ (me := xm133) hP_133 rfl (fun x1 => ?_)
  refine xZ.adv (me := xm133) hP_133 1 (pc' := 70) (lv' := [(0, .ref v0), (1, .int (yw v1)), (2, .int (yw v2)), (3, .int (yw v3)), (4, .int (yw v4))]) (st' := [.int (2 : Int32), .int (yw x1)]) rfl ?_
  refine xZ.eqs (lv2 := [(0, .ref v0), (1, .int (yw v1)), (2, .int (yw v2)), (3, .int (yw v3)), (4, .int (yw v4))]) (st2 := [.int (yw 2), .int (yw x1)]) rfl (by simp only [yl_lit, yL_lit, yw_add, yw_sub, yw_mul, yw_neg, yl_add, yl_sub, yl_mul, cj_and, cj_or, cj_xor, cj_shl, cj_shr, cj_ushr, cj_div, cj_i2c, cj_i2b, cj_dc, ck_and, ck_or, ck_xor, ck_shl, ck_shr, ck_ushr, ck_i2l, ck_l2i, ck_cmp]) ?_
  refine xZ.jc_ne (me := xm133) hP_133 rfl (fun h1 => ?_) (fun h1 => ?_)
  · skip
    refine xZ.adv (me := xm133) hP_133 2 (pc' := 75) (lv' := [(0, .ref v0), (1, .int (yw v1)), (2, .int (yw v2)), (3, .int (yw v3)), (4, .int (yw v4))]) (st' := [.ref v0, .int (yw v3)]) rfl ?_
    refine xZ.k_gJ (me := xm133) hP_133 rfl (fun x2 => ?_)
    refine xZ.jc_le (me := xm133) hP_133 rfl (fun h2 => ?_) (fun h2 => ?_)
    · skip
      exact (k_f_Rule_isRight_84 O f d K16 hK16 v0 v1 v2 v3 v4 M)
    · skip
      exact xZ.sub (xsc (.head _) (xsc (.tail _ (.head _)) (xsc (.tail _ (.tail _ (.head _))) (xsc (.tail _ (.tail _ (.tail _ (.head _)))) xsn)))) (show ([0, 1, 2, 3, 4] : List Nat).Nodup from by decide) (k_f_Rule_isRight_81 O f d K16 hK16 v0 v1 v2 v3 M)
  · skip
    exact (k_f_Rule_isRight_84 O f d K16 hK16 v0 v1 v2 v3 v4 M)
def f_Rule_isRight_49 (O : Nat → Option va_E) (f : Nat) (K16 : Nat → Int → Int → Int → xM → Option (Int × xM)) (v0 : Nat) (v1 : Int) (v2 : Int) (v3 : Int) (v4 : Int) (M : xM) : Option (Int × xM) :=
  (gJ O M v0 9 5).bind fun x1 =>
  if yw x1 = yw 1 then (
    (gJ O M v0 9 6).bind fun x2 =>
    if yw x2 < yw v2 then (
      f_Rule_isRight_81 O f K16 v0 v1 v2 v3 M
    ) else
    f_Rule_isRight_65 O f K16 v0 v1 v2 v3 v4 M
  ) else
  f_Rule_isRight_65 O f K16 v0 v1 v2 v3 v4 M
set_option maxRecDepth 20000 in
theorem k_f_Rule_isRight_49 (O : Nat → Option va_E) (f d : Nat) (K16 : Nat → Int → Int → Int → xM → Option (Int × xM)) (hK16 : ∀ (v0 : Nat) (v1 : Int) (v2 : Int) (v3 : Int) M, xZ oJ O (d + 5) 133 16 [(0, .ref v0), (1, .int (yw v1)), (2, .int (yw v2)), (3, .int (yw v3))] [] M (K16 v0 v1 v2 v3 M)) (v0 : Nat) (v1 : Int) (v2 : Int) (v3 : Int) (v4 : Int) (M : xM) : xZ oJ O (d + 5) 133 49 [(0, .ref v0), (1, .int (yw v1)), (2, .int (yw v2)), (3, .int (yw v3)), (4, .int (yw v4))] [] M (f_Rule_isRight_49 O f K16 v0 v1 v2 v3 v4 M) := by
  unfold f_Rule_isRight_49
  refine xZ.adv (me := xm133) hP_133 1 (pc' := 50) (lv' := [(0, .ref v0), (1, .int (yw v1)), (2, .int (yw v2)), (3, .int (yw v3)), (4, .int (yw v4))]) (st' := [.ref v0]) rfl ?_
  refine xZ.k_gJ (me := xm133) hP_133 rfl (fun x1 => ?_)
  refine xZ.adv (me := xm133) hP_133 1 (pc' := 54) (lv' := [(0, .ref v0), (1, .int (yw v1)), (2, .int (yw v2)), (3, .int (yw v3)), (4, .int (yw v4))]) (st' := [.int (1 : Int32), .int (yw x1)]) rfl ?_
  refine xZ.eqs (lv2 := [(0, .ref v0), (1, .int (yw v1)), (2, .int (yw v2)), (3, .int (yw v3)), (4, .int (yw v4))]) (st2 := [.int (yw 1), .int (yw x1)]) rfl (by simp only [yl_lit, yL_lit, yw_add, yw_sub, yw_mul, yw_neg, yl_add, yl_sub, yl_mul, cj_and, cj_or, cj_xor, cj_shl, cj_shr, cj_ushr, cj_div, cj_i2c, cj_i2b, cj_dc, ck_and, ck_or, ck_xor, ck_shl, ck_shr, ck_ushr, ck_i2l, ck_l2i, ck_cmp]) ?_
  refine xZ.jc_ne (me := xm133) hP_133 rfl (fun h1 => ?_) (fun h1 => ?_)
  · skip
    refine xZ.adv (me := xm133) hP_133 2 (pc' := 59) (lv' := [(0, .ref v0), (1, .int (yw v1)), (2, .int (yw v2)), (3, .int (yw v3)), (4, .int (yw v4))]) (st' := [.ref v0, .int (yw v2)]) rfl ?_
    refine xZ.k_gJ (me := xm133) hP_133 rfl (fun x2 => ?_)
    refine xZ.jc_gt (me := xm133) hP_133 rfl (fun h2 => ?_) (fun h2 => ?_)
    · skip
      exact xZ.sub (xsc (.head _) (xsc (.tail _ (.head _)) (xsc (.tail _ (.tail _ (.head _))) (xsc (.tail _ (.tail _ (.tail _ (.head _)))) xsn)))) (show ([0, 1, 2, 3, 4] : List Nat).Nodup from by decide) (k_f_Rule_isRight_81 O f d K16 hK16 v0 v1 v2 v3 M)
    · skip
      exact (k_f_Rule_isRight_65 O f d K16 hK16 v0 v1 v2 v3 v4 M)
  · skip
    exact (k_f_Rule_isRight_65 O f d K16 hK16 v0 v1 v2 v3 v4 M)
def f_Rule_isRight_16 (O : Nat → Option va_E) (f : Nat) : Nat → Nat → Int → Int → Int → xM → Option (Int × xM)
  | 0, _, _, _, _, _ => none
  | n + 1, v0, v1, v2, v3, M =>
    if yw 146000 < yw v3 then (
      some (1, M)
    ) else
    (gJ O M v0 9 0).bind fun x1 =>
    if yw (x1 + 800) ≤ yw v3 then (
      some (1, M)
    ) else
    (isO O M v0 9).bind fun _ =>
    xcl (f_Rule_holds O f v0 v3 M) fun x2 M1 =>
    if yw x2 = yw 0 then (
      f_Rule_isRight_49 O f (f_Rule_isRight_16 O f n) v0 v1 v2 v3 x2 M1
    ) else
    f_Rule_isRight_49 O f (f_Rule_isRight_16 O f n) v0 v1 (v2 + 1) v3 x2 M1
set_option maxRecDepth 20000 in
theorem k_f_Rule_isRight_16 (O : Nat → Option va_E) (f d : Nat) : ∀ (n : Nat) (v0 : Nat) (v1 : Int) (v2 : Int) (v3 : Int) (M : xM), xZ oJ O (d + 5) 133 16 [(0, .ref v0), (1, .int (yw v1)), (2, .int (yw v2)), (3, .int (yw v3))] [] M (f_Rule_isRight_16 O f n v0 v1 v2 v3 M) := by
  intro n
  induction n with
  | zero =>
    intro v0 v1 v2 v3 M
    exact xZ.no
  | succ n ih =>
    intro v0 v1 v2 v3 M
    unfold f_Rule_isRight_16
    refine xZ.adv (me := xm133) hP_133 2 (pc' := 19) (lv' := [(0, .ref v0), (1, .int (yw v1)), (2, .int (yw v2)), (3, .int (yw v3))]) (st' := [.int (146000 : Int32), .int (yw v3)]) rfl ?_
    refine xZ.eqs (lv2 := [(0, .ref v0), (1, .int (yw v1)), (2, .int (yw v2)), (3, .int (yw v3))]) (st2 := [.int (yw 146000), .int (yw v3)]) rfl (by simp only [yl_lit, yL_lit, yw_add, yw_sub, yw_mul, yw_neg, yl_add, yl_sub, yl_mul, cj_and, cj_or, cj_xor, cj_shl, cj_shr, cj_ushr, cj_div, cj_i2c, cj_i2b, cj_dc, ck_and, ck_or, ck_xor, ck_shl, ck_shr, ck_ushr, ck_i2l, ck_l2i, ck_cmp]) ?_
    refine xZ.jc_gt (me := xm133) hP_133 rfl (fun h1 => ?_) (fun h1 => ?_)
    · skip
      refine xZ.adv (me := xm133) hP_133 1 (pc' := 121) (lv' := [(0, .ref v0), (1, .int (yw v1)), (2, .int (yw v2)), (3, .int (yw v3))]) (st' := [.int (1 : Int32)]) rfl ?_
      refine xZ.eqs (lv2 := [(0, .ref v0), (1, .int (yw v1)), (2, .int (yw v2)), (3, .int (yw v3))]) (st2 := [.int (yw 1)]) rfl (by simp only [yl_lit, yL_lit, yw_add, yw_sub, yw_mul, yw_neg, yl_add, yl_sub, yl_mul, cj_and, cj_or, cj_xor, cj_shl, cj_shr, cj_ushr, cj_div, cj_i2c, cj_i2b, cj_dc, ck_and, ck_or, ck_xor, ck_shl, ck_shr, ck_ushr, ck_i2l, ck_l2i, ck_cmp]) ?_
      exact xZ.jrete (me := xm133) hP_133 rfl rfl rfl
    · skip
      refine xZ.adv (me := xm133) hP_133 2 (pc' := 24) (lv' := [(0, .ref v0), (1, .int (yw v1)), (2, .int (yw v2)), (3, .int (yw v3))]) (st' := [.ref v0, .int (yw v3)]) rfl ?_
      refine xZ.k_gJ (me := xm133) hP_133 rfl (fun x1 => ?_)
      refine xZ.adv (me := xm133) hP_133 2 (pc' := 31) (lv' := [(0, .ref v0), (1, .int (yw v1)), (2, .int (yw v2)), (3, .int (yw v3))]) (st' := [.int ((yw x1) + (800 : Int32)), .int (yw v3)]) rfl ?_
      refine xZ.eqs (lv2 := [(0, .ref v0), (1, .int (yw v1)), (2, .int (yw v2)), (3, .int (yw v3))]) (st2 := [.int (yw (x1 + 800)), .int (yw v3)]) rfl (by simp only [yl_lit, yL_lit, yw_add, yw_sub, yw_mul, yw_neg, yl_add, yl_sub, yl_mul, cj_and, cj_or, cj_xor, cj_shl, cj_shr, cj_ushr, cj_div, cj_i2c, cj_i2b, cj_dc, ck_and, ck_or, ck_xor, ck_shl, ck_shr, ck_ushr, ck_i2l, ck_l2i, ck_cmp]) ?_
      refine xZ.jc_ge (me := xm133) hP_133 rfl (fun h2 => ?_) (fun h2 => ?_)
      · skip
        refine xZ.adv (me := xm133) hP_133 1 (pc' := 121) (lv' := [(0, .ref v0), (1, .int (yw v1)), (2, .int (yw v2)), (3, .int (yw v3))]) (st' := [.int (1 : Int32)]) rfl ?_
        refine xZ.eqs (lv2 := [(0, .ref v0), (1, .int (yw v1)), (2, .int (yw v2)), (3, .int (yw v3))]) (st2 := [.int (yw 1)]) rfl (by simp only [yl_lit, yL_lit, yw_add, yw_sub, yw_mul, yw_neg, yl_add, yl_sub, yl_mul, cj_and, cj_or, cj_xor, cj_shl, cj_shr, cj_ushr, cj_div, cj_i2c, cj_i2b, cj_dc, ck_and, ck_or, ck_xor, ck_shl, ck_shr, ck_ushr, ck_i2l, ck_l2i, ck_cmp]) ?_
        exact xZ.jrete (me := xm133) hP_133 rfl rfl rfl
      · skip
        refine xZ.adv (me := xm133) hP_133 2 (pc' := 36) (lv' := [(0, .ref v0), (1, .int (yw v1)), (2, .int (yw v2)), (3, .int (yw v3))]) (st' := [.int (yw v3), .ref v0]) rfl ?_
        refine xZ.callv (κ := oJ) (av := [.int (yw v3)]) (rest := []) (st' := fun x2 => [.int (yw x2)]) (k0 := v0) (me := xm133) hP_133 rfl (Or.inl rfl) ⟨rfl, by decide⟩ rfl rfl (Nat.le_of_ble_eq_true rfl) (by decide) hP_100 (Nat.le_of_ble_eq_true rfl) (fun _ => rfl) (k_f_Rule_holds O f (d + 2) v0 v3 M) (fun x2 M1 => ?_)
        refine xZ.adv (me := xm133) hP_133 2 (pc' := 43) (lv' := [(4, .int (yw x2)), (0, .ref v0), (1, .int (yw v1)), (2, .int (yw v2)), (3, .int (yw v3))]) (st' := [.int (yw x2)]) rfl ?_
        refine xZ.jf_eq (me := xm133) hP_133 rfl (fun h3 => ?_) (fun h3 => ?_)
        · skip
          exact xZ.sub (xsc (.tail _ (.head _)) (xsc (.tail _ (.tail _ (.head _))) (xsc (.tail _ (.tail _ (.tail _ (.head _)))) (xsc (.tail _ (.tail _ (.tail _ (.tail _ (.head _))))) (xsc (.head _) xsn))))) (show ([4, 0, 1, 2, 3] : List Nat).Nodup from by decide) (k_f_Rule_isRight_49 O f d (f_Rule_isRight_16 O f n) ih v0 v1 v2 v3 x2 M1)
        · skip
          refine xZ.adv (me := xm133) hP_133 1 (pc' := 49) (lv' := [(2, .int ((yw v2) + (1 : Int32))), (4, .int (yw x2)), (0, .ref v0), (1, .int (yw v1)), (3, .int (yw v3))]) (st' := []) rfl ?_
          refine xZ.eqs (lv2 := [(2, .int (yw (v2 + 1))), (4, .int (yw x2)), (0, .ref v0), (1, .int (yw v1)), (3, .int (yw v3))]) (st2 := []) (by simp only [yl_lit, yL_lit, yw_add, yw_sub, yw_mul, yw_neg, yl_add, yl_sub, yl_mul, cj_and, cj_or, cj_xor, cj_shl, cj_shr, cj_ushr, cj_div, cj_i2c, cj_i2b, cj_dc, ck_and, ck_or, ck_xor, ck_shl, ck_shr, ck_ushr, ck_i2l, ck_l2i, ck_cmp]) rfl ?_
          exact xZ.sub (xsc (.tail _ (.tail _ (.head _))) (xsc (.tail _ (.tail _ (.tail _ (.head _)))) (xsc (.head _) (xsc (.tail _ (.tail _ (.tail _ (.tail _ (.head _))))) (xsc (.tail _ (.head _)) xsn))))) (show ([2, 4, 0, 1, 3] : List Nat).Nodup from by decide) (k_f_Rule_isRight_49 O f d (f_Rule_isRight_16 O f n) ih v0 v1 (v2 + 1) v3 x2 M1)
def f_Rule_isRight (O : Nat → Option va_E) (f : Nat) (v0 : Nat) (M : xM) : Option (Int × xM) :=
  (gJ O M v0 9 0).bind fun x1 =>
  (isO O M v0 9).bind fun _ =>
  xcl (f_Rule_next O f v0 x1 M) fun x2 M1 =>
  (gJ O M1 v0 9 0).bind fun x3 =>
  f_Rule_isRight_16 O f f v0 x2 0 x3 M1
set_option maxRecDepth 20000 in
theorem k_f_Rule_isRight (O : Nat → Option va_E) (f d : Nat) (v0 : Nat) (M : xM) : xZ oJ O (d + 5) 133 0 [(0, .ref v0)] [] M (f_Rule_isRight O f v0 M) := by
  unfold f_Rule_isRight
  refine xZ.adv (me := xm133) hP_133 2 (pc' := 2) (lv' := [(0, .ref v0)]) (st' := [.ref v0, .ref v0]) rfl ?_
  refine xZ.k_gJ (me := xm133) hP_133 rfl (fun x1 => ?_)
  refine xZ.callv (κ := oJ) (av := [.int (yw x1)]) (rest := []) (st' := fun x2 => [.int (yw x2)]) (k0 := v0) (me := xm133) hP_133 rfl (Or.inl rfl) ⟨rfl, by decide⟩ rfl rfl (Nat.le_of_ble_eq_true rfl) (by decide) hP_45 (Nat.le_of_ble_eq_true rfl) (fun _ => rfl) (k_f_Rule_next O f (d + 0) v0 x1 M) (fun x2 M1 => ?_)
  refine xZ.adv (me := xm133) hP_133 4 (pc' := 12) (lv' := [(2, .int (0 : Int32)), (1, .int (yw x2)), (0, .ref v0)]) (st' := [.ref v0]) rfl ?_
  refine xZ.eqs (lv2 := [(2, .int (yw 0)), (1, .int (yw x2)), (0, .ref v0)]) (st2 := [.ref v0]) (by simp only [yl_lit, yL_lit, yw_add, yw_sub, yw_mul, yw_neg, yl_add, yl_sub, yl_mul, cj_and, cj_or, cj_xor, cj_shl, cj_shr, cj_ushr, cj_div, cj_i2c, cj_i2b, cj_dc, ck_and, ck_or, ck_xor, ck_shl, ck_shr, ck_ushr, ck_i2l, ck_l2i, ck_cmp]) rfl ?_
  refine xZ.k_gJ (me := xm133) hP_133 rfl (fun x3 => ?_)
  refine xZ.adv (me := xm133) hP_133 1 (pc' := 16) (lv' := [(3, .int (yw x3)), (2, .int (yw 0)), (1, .int (yw x2)), (0, .ref v0)]) (st' := []) rfl ?_
  exact xZ.sub (xsc (.tail _ (.tail _ (.tail _ (.head _)))) (xsc (.tail _ (.tail _ (.head _))) (xsc (.tail _ (.head _)) (xsc (.head _) xsn)))) (show ([3, 2, 1, 0] : List Nat).Nodup from by decide) (k_f_Rule_isRight_16 O f d f v0 x2 0 x3 M1)
def f_Zone_localOf (O : Nat → Option va_E) (f : Nat) (v0 : Nat) (v1 : Int) (M : xM) : Option (Int × xM) :=
  (gJ O M v0 11 0).bind fun x1 =>
  (isO O M v0 11).bind fun _ =>
  xcl (f_Zone_isSummer O f v0 (v1 + x1) M) fun x2 M1 =>
  if yw x2 = yw 0 then (
    some ((v1 + x1), M1)
  ) else
  (gJ O M1 v0 11 1).bind fun x3 =>
  some (((v1 + x1) + x3), M1)
set_option maxRecDepth 20000 in
theorem k_f_Zone_localOf (O : Nat → Option va_E) (f d : Nat) (v0 : Nat) (v1 : Int) (M : xM) : xZ oJ O (d + 3) 135 0 [(0, .ref v0), (1, .int (yw v1))] [] M (f_Zone_localOf O f v0 v1 M) := by
  unfold f_Zone_localOf
  refine xZ.adv (me := xm135) hP_135 2 (pc' := 2) (lv' := [(0, .ref v0), (1, .int (yw v1))]) (st' := [.ref v0, .int (yw v1)]) rfl ?_
  refine xZ.k_gJ (me := xm135) hP_135 rfl (fun x1 => ?_)
  refine xZ.adv (me := xm135) hP_135 4 (pc' := 9) (lv' := [(2, .int ((yw v1) + (yw x1))), (0, .ref v0), (1, .int (yw v1))]) (st' := [.int ((yw v1) + (yw x1)), .ref v0]) rfl ?_
  refine xZ.eqs (lv2 := [(2, .int (yw (v1 + x1))), (0, .ref v0), (1, .int (yw v1))]) (st2 := [.int (yw (v1 + x1)), .ref v0]) (by simp only [yl_lit, yL_lit, yw_add, yw_sub, yw_mul, yw_neg, yl_add, yl_sub, yl_mul, cj_and, cj_or, cj_xor, cj_shl, cj_shr, cj_ushr, cj_div, cj_i2c, cj_i2b, cj_dc, ck_and, ck_or, ck_xor, ck_shl, ck_shr, ck_ushr, ck_i2l, ck_l2i, ck_cmp]) (by simp only [yl_lit, yL_lit, yw_add, yw_sub, yw_mul, yw_neg, yl_add, yl_sub, yl_mul, cj_and, cj_or, cj_xor, cj_shl, cj_shr, cj_ushr, cj_div, cj_i2c, cj_i2b, cj_dc, ck_and, ck_or, ck_xor, ck_shl, ck_shr, ck_ushr, ck_i2l, ck_l2i, ck_cmp]) ?_
  refine xZ.callv (κ := oJ) (av := [.int (yw (v1 + x1))]) (rest := []) (st' := fun x2 => [.int (yw x2)]) (k0 := v0) (me := xm135) hP_135 rfl (Or.inl rfl) ⟨rfl, by decide⟩ rfl rfl (Nat.le_of_ble_eq_true rfl) (by decide) hP_106 (Nat.le_of_ble_eq_true rfl) (fun _ => rfl) (k_f_Zone_isSummer O f (d + 0) v0 (v1 + x1) M) (fun x2 M1 => ?_)
  refine xZ.jf_eq (me := xm135) hP_135 rfl (fun h1 => ?_) (fun h1 => ?_)
  · skip
    refine xZ.adv (me := xm135) hP_135 1 (pc' := 25) (lv' := [(2, .int (yw (v1 + x1))), (0, .ref v0), (1, .int (yw v1))]) (st' := [.int (yw (v1 + x1))]) rfl ?_
    exact xZ.jreti (me := xm135) hP_135 rfl rfl
  · skip
    refine xZ.adv (me := xm135) hP_135 2 (pc' := 17) (lv' := [(2, .int (yw (v1 + x1))), (0, .ref v0), (1, .int (yw v1))]) (st' := [.ref v0, .int (yw (v1 + x1))]) rfl ?_
    refine xZ.k_gJ (me := xm135) hP_135 rfl (fun x3 => ?_)
    refine xZ.adv (me := xm135) hP_135 2 (pc' := 25) (lv' := [(2, .int (yw (v1 + x1))), (0, .ref v0), (1, .int (yw v1))]) (st' := [.int ((yw (v1 + x1)) + (yw x3))]) rfl ?_
    refine xZ.eqs (lv2 := [(2, .int (yw (v1 + x1))), (0, .ref v0), (1, .int (yw v1))]) (st2 := [.int (yw ((v1 + x1) + x3))]) rfl (by simp only [yl_lit, yL_lit, yw_add, yw_sub, yw_mul, yw_neg, yl_add, yl_sub, yl_mul, cj_and, cj_or, cj_xor, cj_shl, cj_shr, cj_ushr, cj_div, cj_i2c, cj_i2b, cj_dc, ck_and, ck_or, ck_xor, ck_shl, ck_shr, ck_ushr, ck_i2l, ck_l2i, ck_cmp]) ?_
    exact xZ.jreti (me := xm135) hP_135 rfl rfl
def f_Zone_firstOf (O : Nat → Option va_E) (f : Nat) (v0 : Nat) (v1 : Int) (M : xM) : Option (Int × xM) :=
  (gJ O M v0 11 1).bind fun x1 =>
  (isO O M v0 11).bind fun _ =>
  xcl (f_Zone_isSummer O f v0 (v1 - x1) M) fun x2 M1 =>
  if yw x2 = yw 0 then (
    (isO O M1 v0 11).bind fun _ =>
    xcl (f_Zone_isSummer O f v0 v1 M1) fun x3 M2 =>
    if yw x3 = yw 0 then (
      (gJ O M2 v0 11 0).bind fun x4 =>
      some ((v1 - x4), M2)
    ) else
    some ((-1), M2)
  ) else
  (gJ O M1 v0 11 1).bind fun x5 =>
  (gJ O M1 v0 11 0).bind fun x6 =>
  some (((v1 - x5) - x6), M1)
set_option maxRecDepth 20000 in
theorem k_f_Zone_firstOf (O : Nat → Option va_E) (f d : Nat) (v0 : Nat) (v1 : Int) (M : xM) : xZ oJ O (d + 3) 136 0 [(0, .ref v0), (1, .int (yw v1))] [] M (f_Zone_firstOf O f v0 v1 M) := by
  unfold f_Zone_firstOf
  refine xZ.adv (me := xm136) hP_136 3 (pc' := 3) (lv' := [(0, .ref v0), (1, .int (yw v1))]) (st' := [.ref v0, .int (yw v1), .ref v0]) rfl ?_
  refine xZ.k_gJ (me := xm136) hP_136 rfl (fun x1 => ?_)
  refine xZ.adv (me := xm136) hP_136 1 (pc' := 7) (lv' := [(0, .ref v0), (1, .int (yw v1))]) (st' := [.int ((yw v1) - (yw x1)), .ref v0]) rfl ?_
  refine xZ.eqs (lv2 := [(0, .ref v0), (1, .int (yw v1))]) (st2 := [.int (yw (v1 - x1)), .ref v0]) rfl (by simp only [yl_lit, yL_lit, yw_add, yw_sub, yw_mul, yw_neg, yl_add, yl_sub, yl_mul, cj_and, cj_or, cj_xor, cj_shl, cj_shr, cj_ushr, cj_div, cj_i2c, cj_i2b, cj_dc, ck_and, ck_or, ck_xor, ck_shl, ck_shr, ck_ushr, ck_i2l, ck_l2i, ck_cmp]) ?_
  refine xZ.callv (κ := oJ) (av := [.int (yw (v1 - x1))]) (rest := []) (st' := fun x2 => [.int (yw x2)]) (k0 := v0) (me := xm136) hP_136 rfl (Or.inl rfl) ⟨rfl, by decide⟩ rfl rfl (Nat.le_of_ble_eq_true rfl) (by decide) hP_106 (Nat.le_of_ble_eq_true rfl) (fun _ => rfl) (k_f_Zone_isSummer O f (d + 0) v0 (v1 - x1) M) (fun x2 M1 => ?_)
  refine xZ.jf_eq (me := xm136) hP_136 rfl (fun h1 => ?_) (fun h1 => ?_)
  · skip
    refine xZ.adv (me := xm136) hP_136 2 (pc' := 27) (lv' := [(0, .ref v0), (1, .int (yw v1))]) (st' := [.int (yw v1), .ref v0]) rfl ?_
    refine xZ.callv (κ := oJ) (av := [.int (yw v1)]) (rest := []) (st' := fun x3 => [.int (yw x3)]) (k0 := v0) (me := xm136) hP_136 rfl (Or.inl rfl) ⟨rfl, by decide⟩ rfl rfl (Nat.le_of_ble_eq_true rfl) (by decide) hP_106 (Nat.le_of_ble_eq_true rfl) (fun _ => rfl) (k_f_Zone_isSummer O f (d + 0) v0 v1 M1) (fun x3 M2 => ?_)
    refine xZ.jf_eq (me := xm136) hP_136 rfl (fun h2 => ?_) (fun h2 => ?_)
    · skip
      refine xZ.adv (me := xm136) hP_136 2 (pc' := 39) (lv' := [(0, .ref v0), (1, .int (yw v1))]) (st' := [.ref v0, .int (yw v1)]) rfl ?_
      refine xZ.k_gJ (me := xm136) hP_136 rfl (fun x4 => ?_)
      refine xZ.adv (me := xm136) hP_136 1 (pc' := 43) (lv' := [(0, .ref v0), (1, .int (yw v1))]) (st' := [.int ((yw v1) - (yw x4))]) rfl ?_
      refine xZ.eqs (lv2 := [(0, .ref v0), (1, .int (yw v1))]) (st2 := [.int (yw (v1 - x4))]) rfl (by simp only [yl_lit, yL_lit, yw_add, yw_sub, yw_mul, yw_neg, yl_add, yl_sub, yl_mul, cj_and, cj_or, cj_xor, cj_shl, cj_shr, cj_ushr, cj_div, cj_i2c, cj_i2b, cj_dc, ck_and, ck_or, ck_xor, ck_shl, ck_shr, ck_ushr, ck_i2l, ck_l2i, ck_cmp]) ?_
      exact xZ.jreti (me := xm136) hP_136 rfl rfl
    · skip
      refine xZ.adv (me := xm136) hP_136 2 (pc' := 43) (lv' := [(0, .ref v0), (1, .int (yw v1))]) (st' := [.int (-1 : Int32)]) rfl ?_
      refine xZ.eqs (lv2 := [(0, .ref v0), (1, .int (yw v1))]) (st2 := [.int (yw (-1))]) rfl (by simp only [yl_lit, yL_lit, yw_add, yw_sub, yw_mul, yw_neg, yl_add, yl_sub, yl_mul, cj_and, cj_or, cj_xor, cj_shl, cj_shr, cj_ushr, cj_div, cj_i2c, cj_i2b, cj_dc, ck_and, ck_or, ck_xor, ck_shl, ck_shr, ck_ushr, ck_i2l, ck_l2i, ck_cmp]) ?_
      exact xZ.jreti (me := xm136) hP_136 rfl rfl
  · skip
    refine xZ.adv (me := xm136) hP_136 2 (pc' := 15) (lv' := [(0, .ref v0), (1, .int (yw v1))]) (st' := [.ref v0, .int (yw v1)]) rfl ?_
    refine xZ.k_gJ (me := xm136) hP_136 rfl (fun x5 => ?_)
    refine xZ.adv (me := xm136) hP_136 2 (pc' := 20) (lv' := [(0, .ref v0), (1, .int (yw v1))]) (st' := [.ref v0, .int ((yw v1) - (yw x5))]) rfl ?_
    refine xZ.eqs (lv2 := [(0, .ref v0), (1, .int (yw v1))]) (st2 := [.ref v0, .int (yw (v1 - x5))]) rfl (by simp only [yl_lit, yL_lit, yw_add, yw_sub, yw_mul, yw_neg, yl_add, yl_sub, yl_mul, cj_and, cj_or, cj_xor, cj_shl, cj_shr, cj_ushr, cj_div, cj_i2c, cj_i2b, cj_dc, ck_and, ck_or, ck_xor, ck_shl, ck_shr, ck_ushr, ck_i2l, ck_l2i, ck_cmp]) ?_
    refine xZ.k_gJ (me := xm136) hP_136 rfl (fun x6 => ?_)
    refine xZ.adv (me := xm136) hP_136 1 (pc' := 24) (lv' := [(0, .ref v0), (1, .int (yw v1))]) (st' := [.int ((yw (v1 - x5)) - (yw x6))]) rfl ?_
    refine xZ.eqs (lv2 := [(0, .ref v0), (1, .int (yw v1))]) (st2 := [.int (yw ((v1 - x5) - x6))]) rfl (by simp only [yl_lit, yL_lit, yw_add, yw_sub, yw_mul, yw_neg, yl_add, yl_sub, yl_mul, cj_and, cj_or, cj_xor, cj_shl, cj_shr, cj_ushr, cj_div, cj_i2c, cj_i2b, cj_dc, ck_and, ck_or, ck_xor, ck_shl, ck_shr, ck_ushr, ck_i2l, ck_l2i, ck_cmp]) ?_
    exact xZ.jreti (me := xm136) hP_136 rfl rfl
def f_Zone_secondOf (O : Nat → Option va_E) (f : Nat) (v0 : Nat) (v1 : Int) (M : xM) : Option (Int × xM) :=
  (gJ O M v0 11 1).bind fun x1 =>
  (isO O M v0 11).bind fun _ =>
  xcl (f_Zone_isSummer O f v0 (v1 - x1) M) fun x2 M1 =>
  if yw x2 = yw 0 then (
    some ((-1), M1)
  ) else
  (isO O M1 v0 11).bind fun _ =>
  xcl (f_Zone_isSummer O f v0 v1 M1) fun x3 M2 =>
  if yw x3 = yw 0 then (
    (gJ O M2 v0 11 0).bind fun x4 =>
    some ((v1 - x4), M2)
  ) else
  some ((-1), M2)
set_option maxRecDepth 20000 in
theorem k_f_Zone_secondOf (O : Nat → Option va_E) (f d : Nat) (v0 : Nat) (v1 : Int) (M : xM) : xZ oJ O (d + 3) 137 0 [(0, .ref v0), (1, .int (yw v1))] [] M (f_Zone_secondOf O f v0 v1 M) := by
  unfold f_Zone_secondOf
  refine xZ.adv (me := xm137) hP_137 3 (pc' := 3) (lv' := [(0, .ref v0), (1, .int (yw v1))]) (st' := [.ref v0, .int (yw v1), .ref v0]) rfl ?_
  refine xZ.k_gJ (me := xm137) hP_137 rfl (fun x1 => ?_)
  refine xZ.adv (me := xm137) hP_137 1 (pc' := 7) (lv' := [(0, .ref v0), (1, .int (yw v1))]) (st' := [.int ((yw v1) - (yw x1)), .ref v0]) rfl ?_
  refine xZ.eqs (lv2 := [(0, .ref v0), (1, .int (yw v1))]) (st2 := [.int (yw (v1 - x1)), .ref v0]) rfl (by simp only [yl_lit, yL_lit, yw_add, yw_sub, yw_mul, yw_neg, yl_add, yl_sub, yl_mul, cj_and, cj_or, cj_xor, cj_shl, cj_shr, cj_ushr, cj_div, cj_i2c, cj_i2b, cj_dc, ck_and, ck_or, ck_xor, ck_shl, ck_shr, ck_ushr, ck_i2l, ck_l2i, ck_cmp]) ?_
  refine xZ.callv (κ := oJ) (av := [.int (yw (v1 - x1))]) (rest := []) (st' := fun x2 => [.int (yw x2)]) (k0 := v0) (me := xm137) hP_137 rfl (Or.inl rfl) ⟨rfl, by decide⟩ rfl rfl (Nat.le_of_ble_eq_true rfl) (by decide) hP_106 (Nat.le_of_ble_eq_true rfl) (fun _ => rfl) (k_f_Zone_isSummer O f (d + 0) v0 (v1 - x1) M) (fun x2 M1 => ?_)
  refine xZ.jf_eq (me := xm137) hP_137 rfl (fun h1 => ?_) (fun h1 => ?_)
  · skip
    refine xZ.adv (me := xm137) hP_137 1 (pc' := 31) (lv' := [(0, .ref v0), (1, .int (yw v1))]) (st' := [.int (-1 : Int32)]) rfl ?_
    refine xZ.eqs (lv2 := [(0, .ref v0), (1, .int (yw v1))]) (st2 := [.int (yw (-1))]) rfl (by simp only [yl_lit, yL_lit, yw_add, yw_sub, yw_mul, yw_neg, yl_add, yl_sub, yl_mul, cj_and, cj_or, cj_xor, cj_shl, cj_shr, cj_ushr, cj_div, cj_i2c, cj_i2b, cj_dc, ck_and, ck_or, ck_xor, ck_shl, ck_shr, ck_ushr, ck_i2l, ck_l2i, ck_cmp]) ?_
    exact xZ.jreti (me := xm137) hP_137 rfl rfl
  · skip
    refine xZ.adv (me := xm137) hP_137 2 (pc' := 15) (lv' := [(0, .ref v0), (1, .int (yw v1))]) (st' := [.int (yw v1), .ref v0]) rfl ?_
    refine xZ.callv (κ := oJ) (av := [.int (yw v1)]) (rest := []) (st' := fun x3 => [.int (yw x3)]) (k0 := v0) (me := xm137) hP_137 rfl (Or.inl rfl) ⟨rfl, by decide⟩ rfl rfl (Nat.le_of_ble_eq_true rfl) (by decide) hP_106 (Nat.le_of_ble_eq_true rfl) (fun _ => rfl) (k_f_Zone_isSummer O f (d + 0) v0 v1 M1) (fun x3 M2 => ?_)
    refine xZ.jf_ne (me := xm137) hP_137 rfl (fun h2 => ?_) (fun h2 => ?_)
    · skip
      refine xZ.adv (me := xm137) hP_137 2 (pc' := 23) (lv' := [(0, .ref v0), (1, .int (yw v1))]) (st' := [.ref v0, .int (yw v1)]) rfl ?_
      refine xZ.k_gJ (me := xm137) hP_137 rfl (fun x4 => ?_)
      refine xZ.adv (me := xm137) hP_137 2 (pc' := 31) (lv' := [(0, .ref v0), (1, .int (yw v1))]) (st' := [.int ((yw v1) - (yw x4))]) rfl ?_
      refine xZ.eqs (lv2 := [(0, .ref v0), (1, .int (yw v1))]) (st2 := [.int (yw (v1 - x4))]) rfl (by simp only [yl_lit, yL_lit, yw_add, yw_sub, yw_mul, yw_neg, yl_add, yl_sub, yl_mul, cj_and, cj_or, cj_xor, cj_shl, cj_shr, cj_ushr, cj_div, cj_i2c, cj_i2b, cj_dc, ck_and, ck_or, ck_xor, ck_shl, ck_shr, ck_ushr, ck_i2l, ck_l2i, ck_cmp]) ?_
      exact xZ.jreti (me := xm137) hP_137 rfl rfl
    · skip
      refine xZ.adv (me := xm137) hP_137 1 (pc' := 31) (lv' := [(0, .ref v0), (1, .int (yw v1))]) (st' := [.int (-1 : Int32)]) rfl ?_
      refine xZ.eqs (lv2 := [(0, .ref v0), (1, .int (yw v1))]) (st2 := [.int (yw (-1))]) rfl (by simp only [yl_lit, yL_lit, yw_add, yw_sub, yw_mul, yw_neg, yl_add, yl_sub, yl_mul, cj_and, cj_or, cj_xor, cj_shl, cj_shr, cj_ushr, cj_div, cj_i2c, cj_i2b, cj_dc, ck_and, ck_or, ck_xor, ck_shl, ck_shr, ck_ushr, ck_i2l, ck_l2i, ck_cmp]) ?_
      exact xZ.jreti (me := xm137) hP_137 rfl rfl
def f_Zone_isRight_2 (O : Nat → Option va_E) (f : Nat) : Nat → Nat → Int → xM → Option (Int × xM)
  | 0, _, _, _ => none
  | n + 1, v0, v1, M =>
    if yw 730 < yw v1 then (
      some (1, M)
    ) else
    xlet ((14400 + (1440 * v1)) + 120) fun x1 =>
    (isO O M v0 11).bind fun _ =>
    xcl (f_Zone_localOf O f v0 x1 M) fun x2 M1 =>
    (isO O M1 v0 11).bind fun _ =>
    xcl (f_Zone_firstOf O f v0 x2 M1) fun x3 M2 =>
    if yw x3 = yw x1 then (
      f_Zone_isRight_2 O f n v0 (v1 + 1) M2
    ) else
    (isO O M2 v0 11).bind fun _ =>
    xcl (f_Zone_secondOf O f v0 x2 M2) fun x4 M3 =>
    if yw x4 = yw x1 then (
      f_Zone_isRight_2 O f n v0 (v1 + 1) M3
    ) else
    some (0, M3)
set_option maxRecDepth 20000 in
theorem k_f_Zone_isRight_2 (O : Nat → Option va_E) (f d : Nat) : ∀ (n : Nat) (v0 : Nat) (v1 : Int) (M : xM), xZ oJ O (d + 4) 134 2 [(0, .ref v0), (1, .int (yw v1))] [] M (f_Zone_isRight_2 O f n v0 v1 M) := by
  intro n
  induction n with
  | zero =>
    intro v0 v1 M
    exact xZ.no
  | succ n ih =>
    intro v0 v1 M
    unfold f_Zone_isRight_2
    refine xZ.adv (me := xm134) hP_134 2 (pc' := 6) (lv' := [(0, .ref v0), (1, .int (yw v1))]) (st' := [.int (730 : Int32), .int (yw v1)]) rfl ?_
    refine xZ.eqs (lv2 := [(0, .ref v0), (1, .int (yw v1))]) (st2 := [.int (yw 730), .int (yw v1)]) rfl (by simp only [yl_lit, yL_lit, yw_add, yw_sub, yw_mul, yw_neg, yl_add, yl_sub, yl_mul, cj_and, cj_or, cj_xor, cj_shl, cj_shr, cj_ushr, cj_div, cj_i2c, cj_i2b, cj_dc, ck_and, ck_or, ck_xor, ck_shl, ck_shr, ck_ushr, ck_i2l, ck_l2i, ck_cmp]) ?_
    refine xZ.jc_gt (me := xm134) hP_134 rfl (fun h1 => ?_) (fun h1 => ?_)
    · skip
      refine xZ.adv (me := xm134) hP_134 1 (pc' := 55) (lv' := [(0, .ref v0), (1, .int (yw v1))]) (st' := [.int (1 : Int32)]) rfl ?_
      refine xZ.eqs (lv2 := [(0, .ref v0), (1, .int (yw v1))]) (st2 := [.int (yw 1)]) rfl (by simp only [yl_lit, yL_lit, yw_add, yw_sub, yw_mul, yw_neg, yl_add, yl_sub, yl_mul, cj_and, cj_or, cj_xor, cj_shl, cj_shr, cj_ushr, cj_div, cj_i2c, cj_i2b, cj_dc, ck_and, ck_or, ck_xor, ck_shl, ck_shr, ck_ushr, ck_i2l, ck_l2i, ck_cmp]) ?_
      exact xZ.jrete (me := xm134) hP_134 rfl rfl rfl
    · skip
      refine xZ.adv (me := xm134) hP_134 8 (pc' := 22) (lv' := [(2, .int (((14400 : Int32) + ((1440 : Int32) * (yw v1))) + (120 : Int32))), (0, .ref v0), (1, .int (yw v1))]) (st' := []) rfl ?_
      refine xZ.eqs (lv2 := [(2, .int (yw ((14400 + (1440 * v1)) + 120))), (0, .ref v0), (1, .int (yw v1))]) (st2 := []) (by simp only [yl_lit, yL_lit, yw_add, yw_sub, yw_mul, yw_neg, yl_add, yl_sub, yl_mul, cj_and, cj_or, cj_xor, cj_shl, cj_shr, cj_ushr, cj_div, cj_i2c, cj_i2b, cj_dc, ck_and, ck_or, ck_xor, ck_shl, ck_shr, ck_ushr, ck_i2l, ck_l2i, ck_cmp]) rfl ?_
      refine xZ.letI (v := ((14400 + (1440 * v1)) + 120)) (lvf := fun x1 => [(2, .int (yw x1)), (0, .ref v0), (1, .int (yw v1))]) (stf := fun x1 => []) ?_
      intro x1
      refine xZ.adv (me := xm134) hP_134 2 (pc' := 24) (lv' := [(2, .int (yw x1)), (0, .ref v0), (1, .int (yw v1))]) (st' := [.int (yw x1), .ref v0]) rfl ?_
      refine xZ.callv (κ := oJ) (av := [.int (yw x1)]) (rest := []) (st' := fun x2 => [.int (yw x2)]) (k0 := v0) (me := xm134) hP_134 rfl (Or.inl rfl) ⟨rfl, by decide⟩ rfl rfl (Nat.le_of_ble_eq_true rfl) (by decide) hP_135 (Nat.le_of_ble_eq_true rfl) (fun _ => rfl) (k_f_Zone_localOf O f (d + 0) v0 x1 M) (fun x2 M1 => ?_)
      refine xZ.adv (me := xm134) hP_134 3 (pc' := 30) (lv' := [(3, .int (yw x2)), (2, .int (yw x1)), (0, .ref v0), (1, .int (yw v1))]) (st' := [.int (yw x2), .ref v0]) rfl ?_
      refine xZ.callv (κ := oJ) (av := [.int (yw x2)]) (rest := []) (st' := fun x3 => [.int (yw x3)]) (k0 := v0) (me := xm134) hP_134 rfl (Or.inl rfl) ⟨rfl, by decide⟩ rfl rfl (Nat.le_of_ble_eq_true rfl) (by decide) hP_136 (Nat.le_of_ble_eq_true rfl) (fun _ => rfl) (k_f_Zone_firstOf O f (d + 0) v0 x2 M1) (fun x3 M2 => ?_)
      refine xZ.adv (me := xm134) hP_134 1 (pc' := 34) (lv' := [(3, .int (yw x2)), (2, .int (yw x1)), (0, .ref v0), (1, .int (yw v1))]) (st' := [.int (yw x1), .int (yw x3)]) rfl ?_
      refine xZ.jc_eq (me := xm134) hP_134 rfl (fun h2 => ?_) (fun h2 => ?_)
      · skip
        refine xZ.adv (me := xm134) hP_134 2 (pc' := 2) (lv' := [(1, .int ((yw v1) + (1 : Int32))), (3, .int (yw x2)), (2, .int (yw x1)), (0, .ref v0)]) (st' := []) rfl ?_
        refine xZ.eqs (lv2 := [(1, .int (yw (v1 + 1))), (3, .int (yw x2)), (2, .int (yw x1)), (0, .ref v0)]) (st2 := []) (by simp only [yl_lit, yL_lit, yw_add, yw_sub, yw_mul, yw_neg, yl_add, yl_sub, yl_mul, cj_and, cj_or, cj_xor, cj_shl, cj_shr, cj_ushr, cj_div, cj_i2c, cj_i2b, cj_dc, ck_and, ck_or, ck_xor, ck_shl, ck_shr, ck_ushr, ck_i2l, ck_l2i, ck_cmp]) rfl ?_
        exact xZ.sub (xsc (.tail _ (.tail _ (.tail _ (.head _)))) (xsc (.head _) xsn)) (show ([1, 3, 2, 0] : List Nat).Nodup from by decide) (ih v0 (v1 + 1) M2)
      · skip
        refine xZ.adv (me := xm134) hP_134 2 (pc' := 39) (lv' := [(3, .int (yw x2)), (2, .int (yw x1)), (0, .ref v0), (1, .int (yw v1))]) (st' := [.int (yw x2), .ref v0]) rfl ?_
        refine xZ.callv (κ := oJ) (av := [.int (yw x2)]) (rest := []) (st' := fun x4 => [.int (yw x4)]) (k0 := v0) (me := xm134) hP_134 rfl (Or.inl rfl) ⟨rfl, by decide⟩ rfl rfl (Nat.le_of_ble_eq_true rfl) (by decide) hP_137 (Nat.le_of_ble_eq_true rfl) (fun _ => rfl) (k_f_Zone_secondOf O f (d + 0) v0 x2 M2) (fun x4 M3 => ?_)
        refine xZ.adv (me := xm134) hP_134 1 (pc' := 43) (lv' := [(3, .int (yw x2)), (2, .int (yw x1)), (0, .ref v0), (1, .int (yw v1))]) (st' := [.int (yw x1), .int (yw x4)]) rfl ?_
        refine xZ.jc_eq (me := xm134) hP_134 rfl (fun h3 => ?_) (fun h3 => ?_)
        · skip
          refine xZ.adv (me := xm134) hP_134 2 (pc' := 2) (lv' := [(1, .int ((yw v1) + (1 : Int32))), (3, .int (yw x2)), (2, .int (yw x1)), (0, .ref v0)]) (st' := []) rfl ?_
          refine xZ.eqs (lv2 := [(1, .int (yw (v1 + 1))), (3, .int (yw x2)), (2, .int (yw x1)), (0, .ref v0)]) (st2 := []) (by simp only [yl_lit, yL_lit, yw_add, yw_sub, yw_mul, yw_neg, yl_add, yl_sub, yl_mul, cj_and, cj_or, cj_xor, cj_shl, cj_shr, cj_ushr, cj_div, cj_i2c, cj_i2b, cj_dc, ck_and, ck_or, ck_xor, ck_shl, ck_shr, ck_ushr, ck_i2l, ck_l2i, ck_cmp]) rfl ?_
          exact xZ.sub (xsc (.tail _ (.tail _ (.tail _ (.head _)))) (xsc (.head _) xsn)) (show ([1, 3, 2, 0] : List Nat).Nodup from by decide) (ih v0 (v1 + 1) M3)
        · skip
          refine xZ.adv (me := xm134) hP_134 1 (pc' := 47) (lv' := [(3, .int (yw x2)), (2, .int (yw x1)), (0, .ref v0), (1, .int (yw v1))]) (st' := [.int (0 : Int32)]) rfl ?_
          refine xZ.eqs (lv2 := [(3, .int (yw x2)), (2, .int (yw x1)), (0, .ref v0), (1, .int (yw v1))]) (st2 := [.int (yw 0)]) rfl (by simp only [yl_lit, yL_lit, yw_add, yw_sub, yw_mul, yw_neg, yl_add, yl_sub, yl_mul, cj_and, cj_or, cj_xor, cj_shl, cj_shr, cj_ushr, cj_div, cj_i2c, cj_i2b, cj_dc, ck_and, ck_or, ck_xor, ck_shl, ck_shr, ck_ushr, ck_i2l, ck_l2i, ck_cmp]) ?_
          exact xZ.jrete (me := xm134) hP_134 rfl rfl rfl
def f_Zone_isRight (O : Nat → Option va_E) (f : Nat) (v0 : Nat) (M : xM) : Option (Int × xM) :=
  f_Zone_isRight_2 O f f v0 0 M
set_option maxRecDepth 20000 in
theorem k_f_Zone_isRight (O : Nat → Option va_E) (f d : Nat) (v0 : Nat) (M : xM) : xZ oJ O (d + 4) 134 0 [(0, .ref v0)] [] M (f_Zone_isRight O f v0 M) := by
  unfold f_Zone_isRight
  refine xZ.adv (me := xm134) hP_134 2 (pc' := 2) (lv' := [(1, .int (0 : Int32)), (0, .ref v0)]) (st' := []) rfl ?_
  refine xZ.eqs (lv2 := [(1, .int (yw 0)), (0, .ref v0)]) (st2 := []) (by simp only [yl_lit, yL_lit, yw_add, yw_sub, yw_mul, yw_neg, yl_add, yl_sub, yl_mul, cj_and, cj_or, cj_xor, cj_shl, cj_shr, cj_ushr, cj_div, cj_i2c, cj_i2b, cj_dc, ck_and, ck_or, ck_xor, ck_shl, ck_shr, ck_ushr, ck_i2l, ck_l2i, ck_cmp]) rfl ?_
  exact xZ.sub (xsc (.tail _ (.head _)) (xsc (.head _) xsn)) (show ([1, 0] : List Nat).Nodup from by decide) (k_f_Zone_isRight_2 O f d f v0 0 M)
def f_Calendarhall_errors_47 (O : Nat → Option va_E) (f : Nat) : Nat → Nat → Int → Int → xM → Option (Int × xM)
  | 0, _, _, _, _ => none
  | n + 1, v0, v1, v2, M =>
    if yw 3 ≤ yw v2 then (
      some (v1, M)
    ) else
    (gR O M v0 12 0).bind fun x1 =>
    (isO O M x1 4).bind fun _ =>
    xcl (f_Hall_anyZone O f x1 v2 M) fun x2 M1 =>
    (isO O M1 x2 11).bind fun _ =>
    xcl (f_Zone_isRight O f x2 M1) fun x3 M2 =>
    if yw x3 = yw 0 then (
      f_Calendarhall_errors_47 O f n v0 (v1 + 1) (v2 + 1) M2
    ) else
    f_Calendarhall_errors_47 O f n v0 v1 (v2 + 1) M2
set_option maxRecDepth 20000 in
theorem k_f_Calendarhall_errors_47 (O : Nat → Option va_E) (f d : Nat) : ∀ (n : Nat) (v0 : Nat) (v1 : Int) (v2 : Int) (M : xM), xZ oJ O (d + 6) 132 47 [(0, .ref v0), (1, .int (yw v1)), (2, .int (yw v2))] [] M (f_Calendarhall_errors_47 O f n v0 v1 v2 M) := by
  intro n
  induction n with
  | zero =>
    intro v0 v1 v2 M
    exact xZ.no
  | succ n ih =>
    intro v0 v1 v2 M
    unfold f_Calendarhall_errors_47
    refine xZ.adv (me := xm132) hP_132 2 (pc' := 49) (lv' := [(0, .ref v0), (1, .int (yw v1)), (2, .int (yw v2))]) (st' := [.int (3 : Int32), .int (yw v2)]) rfl ?_
    refine xZ.eqs (lv2 := [(0, .ref v0), (1, .int (yw v1)), (2, .int (yw v2))]) (st2 := [.int (yw 3), .int (yw v2)]) rfl (by simp only [yl_lit, yL_lit, yw_add, yw_sub, yw_mul, yw_neg, yl_add, yl_sub, yl_mul, cj_and, cj_or, cj_xor, cj_shl, cj_shr, cj_ushr, cj_div, cj_i2c, cj_i2b, cj_dc, ck_and, ck_or, ck_xor, ck_shl, ck_shr, ck_ushr, ck_i2l, ck_l2i, ck_cmp]) ?_
    refine xZ.jc_ge (me := xm132) hP_132 rfl (fun h1 => ?_) (fun h1 => ?_)
    · skip
      refine xZ.adv (me := xm132) hP_132 1 (pc' := 76) (lv' := [(0, .ref v0), (1, .int (yw v1)), (2, .int (yw v2))]) (st' := [.int (yw v1)]) rfl ?_
      exact xZ.jreti (me := xm132) hP_132 rfl rfl
    · skip
      refine xZ.adv (me := xm132) hP_132 1 (pc' := 53) (lv' := [(0, .ref v0), (1, .int (yw v1)), (2, .int (yw v2))]) (st' := [.ref v0]) rfl ?_
      refine xZ.k_gR (me := xm132) hP_132 rfl (fun x1 => ?_)
      refine xZ.adv (me := xm132) hP_132 1 (pc' := 57) (lv' := [(0, .ref v0), (1, .int (yw v1)), (2, .int (yw v2))]) (st' := [.int (yw v2), .ref x1]) rfl ?_
      refine xZ.callv (κ := oR) (av := [.int (yw v2)]) (rest := []) (st' := fun x2 => [.ref x2]) (k0 := x1) (me := xm132) hP_132 rfl (Or.inl rfl) ⟨rfl, by decide⟩ rfl rfl (Nat.le_of_ble_eq_true rfl) (by decide) hP_21 (Nat.le_of_ble_eq_true rfl) (fun _ => rfl) (k_f_Hall_anyZone O f (d + 5) x1 v2 M) (fun x2 M1 => ?_)
      refine xZ.callv (κ := oJ) (av := []) (rest := []) (st' := fun x3 => [.int (yw x3)]) (k0 := x2) (me := xm132) hP_132 rfl (Or.inl rfl) ⟨rfl, by decide⟩ rfl rfl (Nat.le_of_ble_eq_true rfl) (by decide) hP_134 (Nat.le_of_ble_eq_true rfl) (fun _ => rfl) (k_f_Zone_isRight O f (d + 1) x2 M1) (fun x3 M2 => ?_)
      refine xZ.jf_ne (me := xm132) hP_132 rfl (fun h2 => ?_) (fun h2 => ?_)
      · skip
        refine xZ.adv (me := xm132) hP_132 3 (pc' := 47) (lv' := [(2, .int ((yw v2) + (1 : Int32))), (1, .int ((yw v1) + (1 : Int32))), (0, .ref v0)]) (st' := []) rfl ?_
        refine xZ.eqs (lv2 := [(2, .int (yw (v2 + 1))), (1, .int (yw (v1 + 1))), (0, .ref v0)]) (st2 := []) (by simp only [yl_lit, yL_lit, yw_add, yw_sub, yw_mul, yw_neg, yl_add, yl_sub, yl_mul, cj_and, cj_or, cj_xor, cj_shl, cj_shr, cj_ushr, cj_div, cj_i2c, cj_i2b, cj_dc, ck_and, ck_or, ck_xor, ck_shl, ck_shr, ck_ushr, ck_i2l, ck_l2i, ck_cmp]) rfl ?_
        exact xZ.sub (xsc (.tail _ (.tail _ (.head _))) (xsc (.tail _ (.head _)) (xsc (.head _) xsn))) (show ([2, 1, 0] : List Nat).Nodup from by decide) (ih v0 (v1 + 1) (v2 + 1) M2)
      · skip
        refine xZ.adv (me := xm132) hP_132 2 (pc' := 47) (lv' := [(2, .int ((yw v2) + (1 : Int32))), (0, .ref v0), (1, .int (yw v1))]) (st' := []) rfl ?_
        refine xZ.eqs (lv2 := [(2, .int (yw (v2 + 1))), (0, .ref v0), (1, .int (yw v1))]) (st2 := []) (by simp only [yl_lit, yL_lit, yw_add, yw_sub, yw_mul, yw_neg, yl_add, yl_sub, yl_mul, cj_and, cj_or, cj_xor, cj_shl, cj_shr, cj_ushr, cj_div, cj_i2c, cj_i2b, cj_dc, ck_and, ck_or, ck_xor, ck_shl, ck_shr, ck_ushr, ck_i2l, ck_l2i, ck_cmp]) rfl ?_
        exact xZ.sub (xsc (.tail _ (.head _)) (xsc (.tail _ (.tail _ (.head _))) (xsc (.head _) xsn))) (show ([2, 0, 1] : List Nat).Nodup from by decide) (ih v0 v1 (v2 + 1) M2)
def f_Calendarhall_errors_4 (O : Nat → Option va_E) (f : Nat) : Nat → Nat → Int → Int → xM → Option (Int × xM)
  | 0, _, _, _, _ => none
  | n + 1, v0, v1, v2, M =>
    if yw 12 ≤ yw v2 then (
      f_Calendarhall_errors_47 O f f v0 v1 0 M
    ) else
    (gR O M v0 12 0).bind fun x1 =>
    (isO O M x1 4).bind fun _ =>
    xcl (f_Hall_anySeries O f x1 v2 M) fun x2 M1 =>
    (gJ O M1 x2 10 0).bind fun x3 =>
    if yw x3 = yw 0 then (
      f_Calendarhall_errors_4 O f n v0 v1 (v2 + 1) M1
    ) else
    (gR O M1 x2 10 6).bind fun x4 =>
    (isO O M1 x4 9).bind fun _ =>
    xcl (f_Rule_isRight O f x4 M1) fun x5 M2 =>
    if yw x5 = yw 0 then (
      f_Calendarhall_errors_4 O f n v0 (v1 + 1) (v2 + 1) M2
    ) else
    f_Calendarhall_errors_4 O f n v0 v1 (v2 + 1) M2
set_option maxRecDepth 20000 in
theorem k_f_Calendarhall_errors_4 (O : Nat → Option va_E) (f d : Nat) : ∀ (n : Nat) (v0 : Nat) (v1 : Int) (v2 : Int) (M : xM), xZ oJ O (d + 6) 132 4 [(0, .ref v0), (1, .int (yw v1)), (2, .int (yw v2))] [] M (f_Calendarhall_errors_4 O f n v0 v1 v2 M) := by
  intro n
  induction n with
  | zero =>
    intro v0 v1 v2 M
    exact xZ.no
  | succ n ih =>
    intro v0 v1 v2 M
    unfold f_Calendarhall_errors_4
    refine xZ.adv (me := xm132) hP_132 2 (pc' := 7) (lv' := [(0, .ref v0), (1, .int (yw v1)), (2, .int (yw v2))]) (st' := [.int (12 : Int32), .int (yw v2)]) rfl ?_
    refine xZ.eqs (lv2 := [(0, .ref v0), (1, .int (yw v1)), (2, .int (yw v2))]) (st2 := [.int (yw 12), .int (yw v2)]) rfl (by simp only [yl_lit, yL_lit, yw_add, yw_sub, yw_mul, yw_neg, yl_add, yl_sub, yl_mul, cj_and, cj_or, cj_xor, cj_shl, cj_shr, cj_ushr, cj_div, cj_i2c, cj_i2b, cj_dc, ck_and, ck_or, ck_xor, ck_shl, ck_shr, ck_ushr, ck_i2l, ck_l2i, ck_cmp]) ?_
    refine xZ.jc_ge (me := xm132) hP_132 rfl (fun h1 => ?_) (fun h1 => ?_)
    · skip
      refine xZ.adv (me := xm132) hP_132 2 (pc' := 47) (lv' := [(2, .int (0 : Int32)), (0, .ref v0), (1, .int (yw v1))]) (st' := []) rfl ?_
      refine xZ.eqs (lv2 := [(2, .int (yw 0)), (0, .ref v0), (1, .int (yw v1))]) (st2 := []) (by simp only [yl_lit, yL_lit, yw_add, yw_sub, yw_mul, yw_neg, yl_add, yl_sub, yl_mul, cj_and, cj_or, cj_xor, cj_shl, cj_shr, cj_ushr, cj_div, cj_i2c, cj_i2b, cj_dc, ck_and, ck_or, ck_xor, ck_shl, ck_shr, ck_ushr, ck_i2l, ck_l2i, ck_cmp]) rfl ?_
      exact xZ.sub (xsc (.tail _ (.head _)) (xsc (.tail _ (.tail _ (.head _))) (xsc (.head _) xsn))) (show ([2, 0, 1] : List Nat).Nodup from by decide) (k_f_Calendarhall_errors_47 O f d f v0 v1 0 M)
    · skip
      refine xZ.adv (me := xm132) hP_132 1 (pc' := 11) (lv' := [(0, .ref v0), (1, .int (yw v1)), (2, .int (yw v2))]) (st' := [.ref v0]) rfl ?_
      refine xZ.k_gR (me := xm132) hP_132 rfl (fun x1 => ?_)
      refine xZ.adv (me := xm132) hP_132 1 (pc' := 15) (lv' := [(0, .ref v0), (1, .int (yw v1)), (2, .int (yw v2))]) (st' := [.int (yw v2), .ref x1]) rfl ?_
      refine xZ.callv (κ := oR) (av := [.int (yw v2)]) (rest := []) (st' := fun x2 => [.ref x2]) (k0 := x1) (me := xm132) hP_132 rfl (Or.inl rfl) ⟨rfl, by decide⟩ rfl rfl (Nat.le_of_ble_eq_true rfl) (by decide) hP_29 (Nat.le_of_ble_eq_true rfl) (fun _ => rfl) (k_f_Hall_anySeries O f (d + 5) x1 v2 M) (fun x2 M1 => ?_)
      refine xZ.adv (me := xm132) hP_132 2 (pc' := 20) (lv' := [(3, .ref x2), (0, .ref v0), (1, .int (yw v1)), (2, .int (yw v2))]) (st' := [.ref x2]) rfl ?_
      refine xZ.k_gJ (me := xm132) hP_132 rfl (fun x3 => ?_)
      refine xZ.jf_eq (me := xm132) hP_132 rfl (fun h2 => ?_) (fun h2 => ?_)
      · skip
        refine xZ.adv (me := xm132) hP_132 2 (pc' := 4) (lv' := [(2, .int ((yw v2) + (1 : Int32))), (3, .ref x2), (0, .ref v0), (1, .int (yw v1))]) (st' := []) rfl ?_
        refine xZ.eqs (lv2 := [(2, .int (yw (v2 + 1))), (3, .ref x2), (0, .ref v0), (1, .int (yw v1))]) (st2 := []) (by simp only [yl_lit, yL_lit, yw_add, yw_sub, yw_mul, yw_neg, yl_add, yl_sub, yl_mul, cj_and, cj_or, cj_xor, cj_shl, cj_shr, cj_ushr, cj_div, cj_i2c, cj_i2b, cj_dc, ck_and, ck_or, ck_xor, ck_shl, ck_shr, ck_ushr, ck_i2l, ck_l2i, ck_cmp]) rfl ?_
        exact xZ.sub (xsc (.tail _ (.tail _ (.head _))) (xsc (.tail _ (.tail _ (.tail _ (.head _)))) (xsc (.head _) xsn))) (show ([2, 3, 0, 1] : List Nat).Nodup from by decide) (ih v0 v1 (v2 + 1) M1)
      · skip
        refine xZ.adv (me := xm132) hP_132 1 (pc' := 27) (lv' := [(3, .ref x2), (0, .ref v0), (1, .int (yw v1)), (2, .int (yw v2))]) (st' := [.ref x2]) rfl ?_
        refine xZ.k_gR (me := xm132) hP_132 rfl (fun x4 => ?_)
        refine xZ.callv (κ := oJ) (av := []) (rest := []) (st' := fun x5 => [.int (yw x5)]) (k0 := x4) (me := xm132) hP_132 rfl (Or.inl rfl) ⟨rfl, by decide⟩ rfl rfl (Nat.le_of_ble_eq_true rfl) (by decide) hP_133 (Nat.le_of_ble_eq_true rfl) (fun _ => rfl) (k_f_Rule_isRight O f (d + 0) x4 M1) (fun x5 M2 => ?_)
        refine xZ.jf_ne (me := xm132) hP_132 rfl (fun h3 => ?_) (fun h3 => ?_)
        · skip
          refine xZ.adv (me := xm132) hP_132 3 (pc' := 4) (lv' := [(2, .int ((yw v2) + (1 : Int32))), (1, .int ((yw v1) + (1 : Int32))), (3, .ref x2), (0, .ref v0)]) (st' := []) rfl ?_
          refine xZ.eqs (lv2 := [(2, .int (yw (v2 + 1))), (1, .int (yw (v1 + 1))), (3, .ref x2), (0, .ref v0)]) (st2 := []) (by simp only [yl_lit, yL_lit, yw_add, yw_sub, yw_mul, yw_neg, yl_add, yl_sub, yl_mul, cj_and, cj_or, cj_xor, cj_shl, cj_shr, cj_ushr, cj_div, cj_i2c, cj_i2b, cj_dc, ck_and, ck_or, ck_xor, ck_shl, ck_shr, ck_ushr, ck_i2l, ck_l2i, ck_cmp]) rfl ?_
          exact xZ.sub (xsc (.tail _ (.tail _ (.tail _ (.head _)))) (xsc (.tail _ (.head _)) (xsc (.head _) xsn))) (show ([2, 1, 3, 0] : List Nat).Nodup from by decide) (ih v0 (v1 + 1) (v2 + 1) M2)
        · skip
          refine xZ.adv (me := xm132) hP_132 2 (pc' := 4) (lv' := [(2, .int ((yw v2) + (1 : Int32))), (3, .ref x2), (0, .ref v0), (1, .int (yw v1))]) (st' := []) rfl ?_
          refine xZ.eqs (lv2 := [(2, .int (yw (v2 + 1))), (3, .ref x2), (0, .ref v0), (1, .int (yw v1))]) (st2 := []) (by simp only [yl_lit, yL_lit, yw_add, yw_sub, yw_mul, yw_neg, yl_add, yl_sub, yl_mul, cj_and, cj_or, cj_xor, cj_shl, cj_shr, cj_ushr, cj_div, cj_i2c, cj_i2b, cj_dc, ck_and, ck_or, ck_xor, ck_shl, ck_shr, ck_ushr, ck_i2l, ck_l2i, ck_cmp]) rfl ?_
          exact xZ.sub (xsc (.tail _ (.tail _ (.head _))) (xsc (.tail _ (.tail _ (.tail _ (.head _)))) (xsc (.head _) xsn))) (show ([2, 3, 0, 1] : List Nat).Nodup from by decide) (ih v0 v1 (v2 + 1) M2)
def f_Calendarhall_errors (O : Nat → Option va_E) (f : Nat) (v0 : Nat) (M : xM) : Option (Int × xM) :=
  f_Calendarhall_errors_4 O f f v0 0 0 M
set_option maxRecDepth 20000 in
theorem k_f_Calendarhall_errors (O : Nat → Option va_E) (f d : Nat) (v0 : Nat) (M : xM) : xZ oJ O (d + 6) 132 0 [(0, .ref v0)] [] M (f_Calendarhall_errors O f v0 M) := by
  unfold f_Calendarhall_errors
  refine xZ.adv (me := xm132) hP_132 4 (pc' := 4) (lv' := [(2, .int (0 : Int32)), (1, .int (0 : Int32)), (0, .ref v0)]) (st' := []) rfl ?_
  refine xZ.eqs (lv2 := [(2, .int (yw 0)), (1, .int (yw 0)), (0, .ref v0)]) (st2 := []) (by simp only [yl_lit, yL_lit, yw_add, yw_sub, yw_mul, yw_neg, yl_add, yl_sub, yl_mul, cj_and, cj_or, cj_xor, cj_shl, cj_shr, cj_ushr, cj_div, cj_i2c, cj_i2b, cj_dc, ck_and, ck_or, ck_xor, ck_shl, ck_shr, ck_ushr, ck_i2l, ck_l2i, ck_cmp]) rfl ?_
  exact xZ.sub (xsc (.tail _ (.tail _ (.head _))) (xsc (.tail _ (.head _)) (xsc (.head _) xsn))) (show ([2, 1, 0] : List Nat).Nodup from by decide) (k_f_Calendarhall_errors_4 O f d f v0 0 0 M)
def f_Law_isCut_136 (O : Nat → Option va_E) (f : Nat) (K115 : Nat → Int → Nat → Int → Nat → Int → Int → Int → Int → xM → Option (Int × xM)) (v0 : Nat) (v2 : Int) (v3 : Nat) (v4 : Int) (v5 : Nat) (v6 : Int) (v7 : Int) (v8 : Int) (v10 : Int) (s0 : Nat) (s1 : Int) (M : xM) : Option (Int × xM) :=
  (aJ O M v3 v10).bind fun x1 =>
  (isO O M s0 12).bind fun _ =>
  xcl (f_Calendarhall_nextDay O f s0 s1 x1 M) fun x2 M1 =>
  (aJ O M1 v3 v10).bind fun x3 =>
  if yw x2 = yw x3 then (
    K115 v0 v2 v3 v4 v5 v6 v7 v8 (v10 + 1) M1
  ) else
  some (0, M1)
set_option maxRecDepth 20000 in
theorem k_f_Law_isCut_136 (O : Nat → Option va_E) (f d : Nat) (K115 : Nat → Int → Nat → Int → Nat → Int → Int → Int → Int → xM → Option (Int × xM)) (hK115 : ∀ (v0 : Nat) (v2 : Int) (v3 : Nat) (v4 : Int) (v5 : Nat) (v6 : Int) (v7 : Int) (v8 : Int) (v10 : Int) M, xZ oJ O (d + 8) 125 115 [(0, .ref v0), (2, .int (yw v2)), (3, .ref v3), (4, .int (yw v4)), (5, .ref v5), (6, .int (yw v6)), (7, .int (yw v7)), (8, .int (yw v8)), (10, .int (yw v10))] [] M (K115 v0 v2 v3 v4 v5 v6 v7 v8 v10 M)) (v0 : Nat) (v2 : Int) (v3 : Nat) (v4 : Int) (v5 : Nat) (v6 : Int) (v7 : Int) (v8 : Int) (v10 : Int) (s0 : Nat) (s1 : Int) (M : xM) : xZ oJ O (d + 8) 125 136 [(0, .ref v0), (2, .int (yw v2)), (3, .ref v3), (4, .int (yw v4)), (5, .ref v5), (6, .int (yw v6)), (7, .int (yw v7)), (8, .int (yw v8)), (10, .int (yw v10))] [.int (yw s1), .ref s0] M (f_Law_isCut_136 O f K115 v0 v2 v3 v4 v5 v6 v7 v8 v10 s0 s1 M) := by
  unfold f_Law_isCut_136
  refine xZ.adv (me := xm125) hP_125 2 (pc' := 139) (lv' := [(0, .ref v0), (2, .int (yw v2)), (3, .ref v3), (4, .int (yw v4)), (5, .ref v5), (6, .int (yw v6)), (7, .int (yw v7)), (8, .int (yw v8)), (10, .int (yw v10))]) (st' := [.int (yw v10), .ref v3, .int (yw s1), .ref s0]) rfl ?_
  refine xZ.k_aJ (me := xm125) hP_125 rfl (fun x1 => ?_)
  refine xZ.callv (κ := oJ) (av := [.int (yw s1), .int (yw x1)]) (rest := []) (st' := fun x2 => [.int (yw x2)]) (k0 := s0) (me := xm125) hP_125 rfl (Or.inl rfl) ⟨rfl, by decide⟩ rfl rfl (Nat.le_of_ble_eq_true rfl) (by decide) hP_91 (Nat.le_of_ble_eq_true rfl) (fun _ => rfl) (k_f_Calendarhall_nextDay O f (d + 2) s0 s1 x1 M) (fun x2 M1 => ?_)
  refine xZ.adv (me := xm125) hP_125 2 (pc' := 146) (lv' := [(0, .ref v0), (2, .int (yw v2)), (3, .ref v3), (4, .int (yw v4)), (5, .ref v5), (6, .int (yw v6)), (7, .int (yw v7)), (8, .int (yw v8)), (10, .int (yw v10))]) (st' := [.int (yw v10), .ref v3, .int (yw x2)]) rfl ?_
  refine xZ.k_aJ (me := xm125) hP_125 rfl (fun x3 => ?_)
  refine xZ.jc_eq (me := xm125) hP_125 rfl (fun h1 => ?_) (fun h1 => ?_)
  · skip
    refine xZ.adv (me := xm125) hP_125 2 (pc' := 115) (lv' := [(10, .int ((yw v10) + (1 : Int32))), (0, .ref v0), (2, .int (yw v2)), (3, .ref v3), (4, .int (yw v4)), (5, .ref v5), (6, .int (yw v6)), (7, .int (yw v7)), (8, .int (yw v8))]) (st' := []) rfl ?_
    refine xZ.eqs (lv2 := [(10, .int (yw (v10 + 1))), (0, .ref v0), (2, .int (yw v2)), (3, .ref v3), (4, .int (yw v4)), (5, .ref v5), (6, .int (yw v6)), (7, .int (yw v7)), (8, .int (yw v8))]) (st2 := []) (by simp only [yl_lit, yL_lit, yw_add, yw_sub, yw_mul, yw_neg, yl_add, yl_sub, yl_mul, cj_and, cj_or, cj_xor, cj_shl, cj_shr, cj_ushr, cj_div, cj_i2c, cj_i2b, cj_dc, ck_and, ck_or, ck_xor, ck_shl, ck_shr, ck_ushr, ck_i2l, ck_l2i, ck_cmp]) rfl ?_
    exact xZ.sub (xsc (.tail _ (.head _)) (xsc (.tail _ (.tail _ (.head _))) (xsc (.tail _ (.tail _ (.tail _ (.head _)))) (xsc (.tail _ (.tail _ (.tail _ (.tail _ (.head _))))) (xsc (.tail _ (.tail _ (.tail _ (.tail _ (.tail _ (.head _)))))) (xsc (.tail _ (.tail _ (.tail _ (.tail _ (.tail _ (.tail _ (.head _))))))) (xsc (.tail _ (.tail _ (.tail _ (.tail _ (.tail _ (.tail _ (.tail _ (.head _)))))))) (xsc (.tail _ (.tail _ (.tail _ (.tail _ (.tail _ (.tail _ (.tail _ (.tail _ (.head _))))))))) (xsc (.head _) xsn))))))))) (show ([10, 0, 2, 3, 4, 5, 6, 7, 8] : List Nat).Nodup from by decide) (hK115 v0 v2 v3 v4 v5 v6 v7 v8 (v10 + 1) M1)
  · skip
    refine xZ.adv (me := xm125) hP_125 1 (pc' := 151) (lv' := [(0, .ref v0), (2, .int (yw v2)), (3, .ref v3), (4, .int (yw v4)), (5, .ref v5), (6, .int (yw v6)), (7, .int (yw v7)), (8, .int (yw v8)), (10, .int (yw v10))]) (st' := [.int (0 : Int32)]) rfl ?_
    refine xZ.eqs (lv2 := [(0, .ref v0), (2, .int (yw v2)), (3, .ref v3), (4, .int (yw v4)), (5, .ref v5), (6, .int (yw v6)), (7, .int (yw v7)), (8, .int (yw v8)), (10, .int (yw v10))]) (st2 := [.int (yw 0)]) rfl (by simp only [yl_lit, yL_lit, yw_add, yw_sub, yw_mul, yw_neg, yl_add, yl_sub, yl_mul, cj_and, cj_or, cj_xor, cj_shl, cj_shr, cj_ushr, cj_div, cj_i2c, cj_i2b, cj_dc, ck_and, ck_or, ck_xor, ck_shl, ck_shr, ck_ushr, ck_i2l, ck_l2i, ck_cmp]) ?_
    exact xZ.jrete (me := xm125) hP_125 rfl rfl rfl
def f_Law_isCut_213 (O : Nat → Option va_E) (f : Nat) (v0 : Nat) (v2 : Int) (v4 : Int) (v8 : Int) (M : xM) : Option (Int × xM) :=
  (isO O M v0 12).bind fun _ =>
  xcl (f_Calendarhall_undo O f v0 M) fun x1 M1 =>
  if yw x1 < yw 0 then (
    some (0, M1)
  ) else
  (isO O M1 v0 12).bind fun _ =>
  xcl (f_Calendarhall_countDays O f v0 v2 10 v8 M1) fun x2 M2 =>
  if yw x2 = yw v4 then (
    (isO O M2 v0 12).bind fun _ =>
    xcl (f_Calendarhall_errors O f v0 M2) fun x3 M3 =>
    if yw x3 = yw 0 then (
      some (1, M3)
    ) else
    some (0, M3)
  ) else
  some (0, M2)
set_option maxRecDepth 20000 in
theorem k_f_Law_isCut_213 (O : Nat → Option va_E) (f d : Nat) (v0 : Nat) (v2 : Int) (v4 : Int) (v8 : Int) (M : xM) : xZ oJ O (d + 8) 125 213 [(0, .ref v0), (2, .int (yw v2)), (4, .int (yw v4)), (8, .int (yw v8))] [] M (f_Law_isCut_213 O f v0 v2 v4 v8 M) := by
  unfold f_Law_isCut_213
  refine xZ.adv (me := xm125) hP_125 1 (pc' := 214) (lv' := [(0, .ref v0), (2, .int (yw v2)), (4, .int (yw v4)), (8, .int (yw v8))]) (st' := [.ref v0]) rfl ?_
  refine xZ.callv (κ := oJ) (av := []) (rest := []) (st' := fun x1 => [.int (yw x1)]) (k0 := v0) (me := xm125) hP_125 rfl (Or.inl rfl) ⟨rfl, by decide⟩ rfl rfl (Nat.le_of_ble_eq_true rfl) (by decide) hP_124 (Nat.le_of_ble_eq_true rfl) (fun _ => rfl) (k_f_Calendarhall_undo O f (d + 3) v0 M) (fun x1 M1 => ?_)
  refine xZ.jf_lt (me := xm125) hP_125 rfl (fun h1 => ?_) (fun h1 => ?_)
  · skip
    refine xZ.adv (me := xm125) hP_125 1 (pc' := 246) (lv' := [(0, .ref v0), (2, .int (yw v2)), (4, .int (yw v4)), (8, .int (yw v8))]) (st' := [.int (0 : Int32)]) rfl ?_
    refine xZ.eqs (lv2 := [(0, .ref v0), (2, .int (yw v2)), (4, .int (yw v4)), (8, .int (yw v8))]) (st2 := [.int (yw 0)]) rfl (by simp only [yl_lit, yL_lit, yw_add, yw_sub, yw_mul, yw_neg, yl_add, yl_sub, yl_mul, cj_and, cj_or, cj_xor, cj_shl, cj_shr, cj_ushr, cj_div, cj_i2c, cj_i2b, cj_dc, ck_and, ck_or, ck_xor, ck_shl, ck_shr, ck_ushr, ck_i2l, ck_l2i, ck_cmp]) ?_
    exact xZ.jrete (me := xm125) hP_125 rfl rfl rfl
  · skip
    refine xZ.adv (me := xm125) hP_125 4 (pc' := 226) (lv' := [(0, .ref v0), (2, .int (yw v2)), (4, .int (yw v4)), (8, .int (yw v8))]) (st' := [.int (yw v8), .int (10 : Int32), .int (yw v2), .ref v0]) rfl ?_
    refine xZ.eqs (lv2 := [(0, .ref v0), (2, .int (yw v2)), (4, .int (yw v4)), (8, .int (yw v8))]) (st2 := [.int (yw v8), .int (yw 10), .int (yw v2), .ref v0]) rfl (by simp only [yl_lit, yL_lit, yw_add, yw_sub, yw_mul, yw_neg, yl_add, yl_sub, yl_mul, cj_and, cj_or, cj_xor, cj_shl, cj_shr, cj_ushr, cj_div, cj_i2c, cj_i2b, cj_dc, ck_and, ck_or, ck_xor, ck_shl, ck_shr, ck_ushr, ck_i2l, ck_l2i, ck_cmp]) ?_
    refine xZ.callv (κ := oJ) (av := [.int (yw v2), .int (yw 10), .int (yw v8)]) (rest := []) (st' := fun x2 => [.int (yw x2)]) (k0 := v0) (me := xm125) hP_125 rfl (Or.inl rfl) ⟨rfl, by decide⟩ rfl rfl (Nat.le_of_ble_eq_true rfl) (by decide) hP_93 (Nat.le_of_ble_eq_true rfl) (fun _ => rfl) (k_f_Calendarhall_countDays O f (d + 2) v0 v2 10 v8 M1) (fun x2 M2 => ?_)
    refine xZ.adv (me := xm125) hP_125 1 (pc' := 231) (lv' := [(0, .ref v0), (2, .int (yw v2)), (4, .int (yw v4)), (8, .int (yw v8))]) (st' := [.int (yw v4), .int (yw x2)]) rfl ?_
    refine xZ.jc_ne (me := xm125) hP_125 rfl (fun h2 => ?_) (fun h2 => ?_)
    · skip
      refine xZ.adv (me := xm125) hP_125 1 (pc' := 235) (lv' := [(0, .ref v0), (2, .int (yw v2)), (4, .int (yw v4)), (8, .int (yw v8))]) (st' := [.ref v0]) rfl ?_
      refine xZ.callv (κ := oJ) (av := []) (rest := []) (st' := fun x3 => [.int (yw x3)]) (k0 := v0) (me := xm125) hP_125 rfl (Or.inl rfl) ⟨rfl, by decide⟩ rfl rfl (Nat.le_of_ble_eq_true rfl) (by decide) hP_132 (Nat.le_of_ble_eq_true rfl) (fun _ => rfl) (k_f_Calendarhall_errors O f (d + 1) v0 M2) (fun x3 M3 => ?_)
      refine xZ.jf_ne (me := xm125) hP_125 rfl (fun h3 => ?_) (fun h3 => ?_)
      · skip
        refine xZ.adv (me := xm125) hP_125 2 (pc' := 246) (lv' := [(0, .ref v0), (2, .int (yw v2)), (4, .int (yw v4)), (8, .int (yw v8))]) (st' := [.int (1 : Int32)]) rfl ?_
        refine xZ.eqs (lv2 := [(0, .ref v0), (2, .int (yw v2)), (4, .int (yw v4)), (8, .int (yw v8))]) (st2 := [.int (yw 1)]) rfl (by simp only [yl_lit, yL_lit, yw_add, yw_sub, yw_mul, yw_neg, yl_add, yl_sub, yl_mul, cj_and, cj_or, cj_xor, cj_shl, cj_shr, cj_ushr, cj_div, cj_i2c, cj_i2b, cj_dc, ck_and, ck_or, ck_xor, ck_shl, ck_shr, ck_ushr, ck_i2l, ck_l2i, ck_cmp]) ?_
        exact xZ.jrete (me := xm125) hP_125 rfl rfl rfl
      · skip
        refine xZ.adv (me := xm125) hP_125 1 (pc' := 246) (lv' := [(0, .ref v0), (2, .int (yw v2)), (4, .int (yw v4)), (8, .int (yw v8))]) (st' := [.int (0 : Int32)]) rfl ?_
        refine xZ.eqs (lv2 := [(0, .ref v0), (2, .int (yw v2)), (4, .int (yw v4)), (8, .int (yw v8))]) (st2 := [.int (yw 0)]) rfl (by simp only [yl_lit, yL_lit, yw_add, yw_sub, yw_mul, yw_neg, yl_add, yl_sub, yl_mul, cj_and, cj_or, cj_xor, cj_shl, cj_shr, cj_ushr, cj_div, cj_i2c, cj_i2b, cj_dc, ck_and, ck_or, ck_xor, ck_shl, ck_shr, ck_ushr, ck_i2l, ck_l2i, ck_cmp]) ?_
        exact xZ.jrete (me := xm125) hP_125 rfl rfl rfl
    · skip
      refine xZ.adv (me := xm125) hP_125 1 (pc' := 246) (lv' := [(0, .ref v0), (2, .int (yw v2)), (4, .int (yw v4)), (8, .int (yw v8))]) (st' := [.int (0 : Int32)]) rfl ?_
      refine xZ.eqs (lv2 := [(0, .ref v0), (2, .int (yw v2)), (4, .int (yw v4)), (8, .int (yw v8))]) (st2 := [.int (yw 0)]) rfl (by simp only [yl_lit, yL_lit, yw_add, yw_sub, yw_mul, yw_neg, yl_add, yl_sub, yl_mul, cj_and, cj_or, cj_xor, cj_shl, cj_shr, cj_ushr, cj_div, cj_i2c, cj_i2b, cj_dc, ck_and, ck_or, ck_xor, ck_shl, ck_shr, ck_ushr, ck_i2l, ck_l2i, ck_cmp]) ?_
      exact xZ.jrete (me := xm125) hP_125 rfl rfl rfl
def f_Law_isCut_186 (O : Nat → Option va_E) (f : Nat) (v0 : Nat) (v2 : Int) (v4 : Int) (v5 : Nat) (v7 : Int) (v8 : Int) (M : xM) : Option (Int × xM) :=
  (gJ O M v5 16 5).bind fun x1 =>
  if yw x1 = yw 2 then (
    (isO O M v0 12).bind fun _ =>
    xcl (f_Calendarhall_seriesAt O f v0 v7 11 M) fun x2 M1 =>
    (gJ O M1 v5 16 6).bind fun x3 =>
    if yw x2 = yw x3 then (
      f_Law_isCut_213 O f v0 v2 v4 v8 M1
    ) else
    some (0, M1)
  ) else
  f_Law_isCut_213 O f v0 v2 v4 v8 M
set_option maxRecDepth 20000 in
theorem k_f_Law_isCut_186 (O : Nat → Option va_E) (f d : Nat) (v0 : Nat) (v2 : Int) (v4 : Int) (v5 : Nat) (v7 : Int) (v8 : Int) (M : xM) : xZ oJ O (d + 8) 125 186 [(0, .ref v0), (2, .int (yw v2)), (4, .int (yw v4)), (5, .ref v5), (7, .int (yw v7)), (8, .int (yw v8))] [] M (f_Law_isCut_186 O f v0 v2 v4 v5 v7 v8 M) := by
  unfold f_Law_isCut_186
  refine xZ.adv (me := xm125) hP_125 1 (pc' := 188) (lv' := [(0, .ref v0), (2, .int (yw v2)), (4, .int (yw v4)), (5, .ref v5), (7, .int (yw v7)), (8, .int (yw v8))]) (st' := [.ref v5]) rfl ?_
  refine xZ.k_gJ (me := xm125) hP_125 rfl (fun x1 => ?_)
  refine xZ.adv (me := xm125) hP_125 1 (pc' := 192) (lv' := [(0, .ref v0), (2, .int (yw v2)), (4, .int (yw v4)), (5, .ref v5), (7, .int (yw v7)), (8, .int (yw v8))]) (st' := [.int (2 : Int32), .int (yw x1)]) rfl ?_
  refine xZ.eqs (lv2 := [(0, .ref v0), (2, .int (yw v2)), (4, .int (yw v4)), (5, .ref v5), (7, .int (yw v7)), (8, .int (yw v8))]) (st2 := [.int (yw 2), .int (yw x1)]) rfl (by simp only [yl_lit, yL_lit, yw_add, yw_sub, yw_mul, yw_neg, yl_add, yl_sub, yl_mul, cj_and, cj_or, cj_xor, cj_shl, cj_shr, cj_ushr, cj_div, cj_i2c, cj_i2b, cj_dc, ck_and, ck_or, ck_xor, ck_shl, ck_shr, ck_ushr, ck_i2l, ck_l2i, ck_cmp]) ?_
  refine xZ.jc_ne (me := xm125) hP_125 rfl (fun h1 => ?_) (fun h1 => ?_)
  · skip
    refine xZ.adv (me := xm125) hP_125 3 (pc' := 200) (lv' := [(0, .ref v0), (2, .int (yw v2)), (4, .int (yw v4)), (5, .ref v5), (7, .int (yw v7)), (8, .int (yw v8))]) (st' := [.int (11 : Int32), .int (yw v7), .ref v0]) rfl ?_
    refine xZ.eqs (lv2 := [(0, .ref v0), (2, .int (yw v2)), (4, .int (yw v4)), (5, .ref v5), (7, .int (yw v7)), (8, .int (yw v8))]) (st2 := [.int (yw 11), .int (yw v7), .ref v0]) rfl (by simp only [yl_lit, yL_lit, yw_add, yw_sub, yw_mul, yw_neg, yl_add, yl_sub, yl_mul, cj_and, cj_or, cj_xor, cj_shl, cj_shr, cj_ushr, cj_div, cj_i2c, cj_i2b, cj_dc, ck_and, ck_or, ck_xor, ck_shl, ck_shr, ck_ushr, ck_i2l, ck_l2i, ck_cmp]) ?_
    refine xZ.callv (κ := oJ) (av := [.int (yw v7), .int (yw 11)]) (rest := []) (st' := fun x2 => [.int (yw x2)]) (k0 := v0) (me := xm125) hP_125 rfl (Or.inl rfl) ⟨rfl, by decide⟩ rfl rfl (Nat.le_of_ble_eq_true rfl) (by decide) hP_126 (Nat.le_of_ble_eq_true rfl) (fun _ => rfl) (k_f_Calendarhall_seriesAt O f (d + 5) v0 v7 11 M) (fun x2 M1 => ?_)
    refine xZ.adv (me := xm125) hP_125 1 (pc' := 205) (lv' := [(0, .ref v0), (2, .int (yw v2)), (4, .int (yw v4)), (5, .ref v5), (7, .int (yw v7)), (8, .int (yw v8))]) (st' := [.ref v5, .int (yw x2)]) rfl ?_
    refine xZ.k_gJ (me := xm125) hP_125 rfl (fun x3 => ?_)
    refine xZ.jc_eq (me := xm125) hP_125 rfl (fun h2 => ?_) (fun h2 => ?_)
    · skip
      exact xZ.sub (xsc (.head _) (xsc (.tail _ (.head _)) (xsc (.tail _ (.tail _ (.head _))) (xsc (.tail _ (.tail _ (.tail _ (.tail _ (.tail _ (.head _)))))) xsn)))) (show ([0, 2, 4, 5, 7, 8] : List Nat).Nodup from by decide) (k_f_Law_isCut_213 O f d v0 v2 v4 v8 M1)
    · skip
      refine xZ.adv (me := xm125) hP_125 1 (pc' := 212) (lv' := [(0, .ref v0), (2, .int (yw v2)), (4, .int (yw v4)), (5, .ref v5), (7, .int (yw v7)), (8, .int (yw v8))]) (st' := [.int (0 : Int32)]) rfl ?_
      refine xZ.eqs (lv2 := [(0, .ref v0), (2, .int (yw v2)), (4, .int (yw v4)), (5, .ref v5), (7, .int (yw v7)), (8, .int (yw v8))]) (st2 := [.int (yw 0)]) rfl (by simp only [yl_lit, yL_lit, yw_add, yw_sub, yw_mul, yw_neg, yl_add, yl_sub, yl_mul, cj_and, cj_or, cj_xor, cj_shl, cj_shr, cj_ushr, cj_div, cj_i2c, cj_i2b, cj_dc, ck_and, ck_or, ck_xor, ck_shl, ck_shr, ck_ushr, ck_i2l, ck_l2i, ck_cmp]) ?_
      exact xZ.jrete (me := xm125) hP_125 rfl rfl rfl
  · skip
    exact xZ.sub (xsc (.head _) (xsc (.tail _ (.head _)) (xsc (.tail _ (.tail _ (.head _))) (xsc (.tail _ (.tail _ (.tail _ (.tail _ (.tail _ (.head _)))))) xsn)))) (show ([0, 2, 4, 5, 7, 8] : List Nat).Nodup from by decide) (k_f_Law_isCut_213 O f d v0 v2 v4 v8 M)
def f_Law_isCut_115 (O : Nat → Option va_E) (f : Nat) : Nat → Nat → Int → Nat → Int → Nat → Int → Int → Int → Int → xM → Option (Int × xM)
  | 0, _, _, _, _, _, _, _, _, _, _ => none
  | n + 1, v0, v2, v3, v4, v5, v6, v7, v8, v10, M =>
    if yw v4 ≤ yw v10 then (
      (gJ O M v5 16 5).bind fun x1 =>
      if yw x1 = yw 1 then (
        (isO O M v0 12).bind fun _ =>
        xcl (f_Calendarhall_seriesAt O f v0 v7 11 M) fun x2 M1 =>
        (gJ O M1 v5 16 6).bind fun x3 =>
        if yw x2 = yw (x3 - v6) then (
          f_Law_isCut_186 O f v0 v2 v4 v5 v7 v8 M1
        ) else
        some (0, M1)
      ) else
      f_Law_isCut_186 O f v0 v2 v4 v5 v7 v8 M
    ) else
    if yw v6 ≤ yw v10 then (
      f_Law_isCut_136 O f (f_Law_isCut_115 O f n) v0 v2 v3 v4 v5 v6 v7 v8 v10 v0 v7 M
    ) else
    f_Law_isCut_136 O f (f_Law_isCut_115 O f n) v0 v2 v3 v4 v5 v6 v7 v8 v10 v0 v2 M
set_option maxRecDepth 20000 in
theorem k_f_Law_isCut_115 (O : Nat → Option va_E) (f d : Nat) : ∀ (n : Nat) (v0 : Nat) (v2 : Int) (v3 : Nat) (v4 : Int) (v5 : Nat) (v6 : Int) (v7 : Int) (v8 : Int) (v10 : Int) (M : xM), xZ oJ O (d + 8) 125 115 [(0, .ref v0), (2, .int (yw v2)), (3, .ref v3), (4, .int (yw v4)), (5, .ref v5), (6, .int (yw v6)), (7, .int (yw v7)), (8, .int (yw v8)), (10, .int (yw v10))] [] M (f_Law_isCut_115 O f n v0 v2 v3 v4 v5 v6 v7 v8 v10 M) := by
  intro n
  induction n with
  | zero =>
    intro v0 v2 v3 v4 v5 v6 v7 v8 v10 M
    exact xZ.no
  | succ n ih =>
    intro v0 v2 v3 v4 v5 v6 v7 v8 v10 M
    unfold f_Law_isCut_115
    refine xZ.adv (me := xm125) hP_125 2 (pc' := 119) (lv' := [(0, .ref v0), (2, .int (yw v2)), (3, .ref v3), (4, .int (yw v4)), (5, .ref v5), (6, .int (yw v6)), (7, .int (yw v7)), (8, .int (yw v8)), (10, .int (yw v10))]) (st' := [.int (yw v4), .int (yw v10)]) rfl ?_
    refine xZ.jc_ge (me := xm125) hP_125 rfl (fun h1 => ?_) (fun h1 => ?_)
    · skip
      refine xZ.adv (me := xm125) hP_125 1 (pc' := 160) (lv' := [(0, .ref v0), (2, .int (yw v2)), (3, .ref v3), (4, .int (yw v4)), (5, .ref v5), (6, .int (yw v6)), (7, .int (yw v7)), (8, .int (yw v8)), (10, .int (yw v10))]) (st' := [.ref v5]) rfl ?_
      refine xZ.k_gJ (me := xm125) hP_125 rfl (fun x1 => ?_)
      refine xZ.adv (me := xm125) hP_125 1 (pc' := 164) (lv' := [(0, .ref v0), (2, .int (yw v2)), (3, .ref v3), (4, .int (yw v4)), (5, .ref v5), (6, .int (yw v6)), (7, .int (yw v7)), (8, .int (yw v8)), (10, .int (yw v10))]) (st' := [.int (1 : Int32), .int (yw x1)]) rfl ?_
      refine xZ.eqs (lv2 := [(0, .ref v0), (2, .int (yw v2)), (3, .ref v3), (4, .int (yw v4)), (5, .ref v5), (6, .int (yw v6)), (7, .int (yw v7)), (8, .int (yw v8)), (10, .int (yw v10))]) (st2 := [.int (yw 1), .int (yw x1)]) rfl (by simp only [yl_lit, yL_lit, yw_add, yw_sub, yw_mul, yw_neg, yl_add, yl_sub, yl_mul, cj_and, cj_or, cj_xor, cj_shl, cj_shr, cj_ushr, cj_div, cj_i2c, cj_i2b, cj_dc, ck_and, ck_or, ck_xor, ck_shl, ck_shr, ck_ushr, ck_i2l, ck_l2i, ck_cmp]) ?_
      refine xZ.jc_ne (me := xm125) hP_125 rfl (fun h2 => ?_) (fun h2 => ?_)
      · skip
        refine xZ.adv (me := xm125) hP_125 3 (pc' := 172) (lv' := [(0, .ref v0), (2, .int (yw v2)), (3, .ref v3), (4, .int (yw v4)), (5, .ref v5), (6, .int (yw v6)), (7, .int (yw v7)), (8, .int (yw v8)), (10, .int (yw v10))]) (st' := [.int (11 : Int32), .int (yw v7), .ref v0]) rfl ?_
        refine xZ.eqs (lv2 := [(0, .ref v0), (2, .int (yw v2)), (3, .ref v3), (4, .int (yw v4)), (5, .ref v5), (6, .int (yw v6)), (7, .int (yw v7)), (8, .int (yw v8)), (10, .int (yw v10))]) (st2 := [.int (yw 11), .int (yw v7), .ref v0]) rfl (by simp only [yl_lit, yL_lit, yw_add, yw_sub, yw_mul, yw_neg, yl_add, yl_sub, yl_mul, cj_and, cj_or, cj_xor, cj_shl, cj_shr, cj_ushr, cj_div, cj_i2c, cj_i2b, cj_dc, ck_and, ck_or, ck_xor, ck_shl, ck_shr, ck_ushr, ck_i2l, ck_l2i, ck_cmp]) ?_
        refine xZ.callv (κ := oJ) (av := [.int (yw v7), .int (yw 11)]) (rest := []) (st' := fun x2 => [.int (yw x2)]) (k0 := v0) (me := xm125) hP_125 rfl (Or.inl rfl) ⟨rfl, by decide⟩ rfl rfl (Nat.le_of_ble_eq_true rfl) (by decide) hP_126 (Nat.le_of_ble_eq_true rfl) (fun _ => rfl) (k_f_Calendarhall_seriesAt O f (d + 5) v0 v7 11 M) (fun x2 M1 => ?_)
        refine xZ.adv (me := xm125) hP_125 1 (pc' := 177) (lv' := [(0, .ref v0), (2, .int (yw v2)), (3, .ref v3), (4, .int (yw v4)), (5, .ref v5), (6, .int (yw v6)), (7, .int (yw v7)), (8, .int (yw v8)), (10, .int (yw v10))]) (st' := [.ref v5, .int (yw x2)]) rfl ?_
        refine xZ.k_gJ (me := xm125) hP_125 rfl (fun x3 => ?_)
        refine xZ.adv (me := xm125) hP_125 2 (pc' := 183) (lv' := [(0, .ref v0), (2, .int (yw v2)), (3, .ref v3), (4, .int (yw v4)), (5, .ref v5), (6, .int (yw v6)), (7, .int (yw v7)), (8, .int (yw v8)), (10, .int (yw v10))]) (st' := [.int ((yw x3) - (yw v6)), .int (yw x2)]) rfl ?_
        refine xZ.eqs (lv2 := [(0, .ref v0), (2, .int (yw v2)), (3, .ref v3), (4, .int (yw v4)), (5, .ref v5), (6, .int (yw v6)), (7, .int (yw v7)), (8, .int (yw v8)), (10, .int (yw v10))]) (st2 := [.int (yw (x3 - v6)), .int (yw x2)]) rfl (by simp only [yl_lit, yL_lit, yw_add, yw_sub, yw_mul, yw_neg, yl_add, yl_sub, yl_mul, cj_and, cj_or, cj_xor, cj_shl, cj_shr, cj_ushr, cj_div, cj_i2c, cj_i2b, cj_dc, ck_and, ck_or, ck_xor, ck_shl, ck_shr, ck_ushr, ck_i2l, ck_l2i, ck_cmp]) ?_
        refine xZ.jc_ne (me := xm125) hP_125 rfl (fun h3 => ?_) (fun h3 => ?_)
        · skip
          exact xZ.sub (xsc (.head _) (xsc (.tail _ (.head _)) (xsc (.tail _ (.tail _ (.tail _ (.head _)))) (xsc (.tail _ (.tail _ (.tail _ (.tail _ (.head _))))) (xsc (.tail _ (.tail _ (.tail _ (.tail _ (.tail _ (.tail _ (.head _))))))) (xsc (.tail _ (.tail _ (.tail _ (.tail _ (.tail _ (.tail _ (.tail _ (.head _)))))))) xsn)))))) (show ([0, 2, 3, 4, 5, 6, 7, 8, 10] : List Nat).Nodup from by decide) (k_f_Law_isCut_186 O f d v0 v2 v4 v5 v7 v8 M1)
        · skip
          refine xZ.adv (me := xm125) hP_125 1 (pc' := 212) (lv' := [(0, .ref v0), (2, .int (yw v2)), (3, .ref v3), (4, .int (yw v4)), (5, .ref v5), (6, .int (yw v6)), (7, .int (yw v7)), (8, .int (yw v8)), (10, .int (yw v10))]) (st' := [.int (0 : Int32)]) rfl ?_
          refine xZ.eqs (lv2 := [(0, .ref v0), (2, .int (yw v2)), (3, .ref v3), (4, .int (yw v4)), (5, .ref v5), (6, .int (yw v6)), (7, .int (yw v7)), (8, .int (yw v8)), (10, .int (yw v10))]) (st2 := [.int (yw 0)]) rfl (by simp only [yl_lit, yL_lit, yw_add, yw_sub, yw_mul, yw_neg, yl_add, yl_sub, yl_mul, cj_and, cj_or, cj_xor, cj_shl, cj_shr, cj_ushr, cj_div, cj_i2c, cj_i2b, cj_dc, ck_and, ck_or, ck_xor, ck_shl, ck_shr, ck_ushr, ck_i2l, ck_l2i, ck_cmp]) ?_
          exact xZ.jrete (me := xm125) hP_125 rfl rfl rfl
      · skip
        exact xZ.sub (xsc (.head _) (xsc (.tail _ (.head _)) (xsc (.tail _ (.tail _ (.tail _ (.head _)))) (xsc (.tail _ (.tail _ (.tail _ (.tail _ (.head _))))) (xsc (.tail _ (.tail _ (.tail _ (.tail _ (.tail _ (.tail _ (.head _))))))) (xsc (.tail _ (.tail _ (.tail _ (.tail _ (.tail _ (.tail _ (.tail _ (.head _)))))))) xsn)))))) (show ([0, 2, 3, 4, 5, 6, 7, 8, 10] : List Nat).Nodup from by decide) (k_f_Law_isCut_186 O f d v0 v2 v4 v5 v7 v8 M)
    · skip
      refine xZ.adv (me := xm125) hP_125 3 (pc' := 127) (lv' := [(0, .ref v0), (2, .int (yw v2)), (3, .ref v3), (4, .int (yw v4)), (5, .ref v5), (6, .int (yw v6)), (7, .int (yw v7)), (8, .int (yw v8)), (10, .int (yw v10))]) (st' := [.int (yw v6), .int (yw v10), .ref v0]) rfl ?_
      refine xZ.jc_ge (me := xm125) hP_125 rfl (fun h4 => ?_) (fun h4 => ?_)
      · skip
        refine xZ.adv (me := xm125) hP_125 1 (pc' := 136) (lv' := [(0, .ref v0), (2, .int (yw v2)), (3, .ref v3), (4, .int (yw v4)), (5, .ref v5), (6, .int (yw v6)), (7, .int (yw v7)), (8, .int (yw v8)), (10, .int (yw v10))]) (st' := [.int (yw v7), .ref v0]) rfl ?_
        exact (k_f_Law_isCut_136 O f d (f_Law_isCut_115 O f n) ih v0 v2 v3 v4 v5 v6 v7 v8 v10 v0 v7 M)
      · skip
        refine xZ.adv (me := xm125) hP_125 2 (pc' := 136) (lv' := [(0, .ref v0), (2, .int (yw v2)), (3, .ref v3), (4, .int (yw v4)), (5, .ref v5), (6, .int (yw v6)), (7, .int (yw v7)), (8, .int (yw v8)), (10, .int (yw v10))]) (st' := [.int (yw v2), .ref v0]) rfl ?_
        exact (k_f_Law_isCut_136 O f d (f_Law_isCut_115 O f n) ih v0 v2 v3 v4 v5 v6 v7 v8 v10 v0 v2 M)
def f_Law_isCut (O : Nat → Option va_E) (f : Nat) (v0 : Nat) (v1 : Nat) (v2 : Int) (v3 : Nat) (v4 : Int) (v5 : Nat) (M : xM) : Option (Int × xM) :=
  if yw 2 ≤ yw v4 then (
    (isO O M v1 15).bind fun _ =>
    xcl (f_LDraw_n O f v1 (v4 - 1) M) fun x1 M1 =>
    (aJ O M1 v3 (1 + x1)).bind fun x2 =>
    (isO O M1 v0 12).bind fun _ =>
    xcl (f_Calendarhall_seriesAt O f v0 v2 2 M1) fun x3 M2 =>
    (isO O M2 v0 12).bind fun _ =>
    xcl (f_Calendarhall_fromHere O f v0 v2 x2 x3 30 M2) fun x4 M3 =>
    (aJ O M3 v3 (v4 - 1)).bind fun x5 =>
    (isO O M3 v0 12).bind fun _ =>
    xcl (f_Calendarhall_countDays O f v0 v2 10 x5 M3) fun x6 M4 =>
    if yw x6 = yw (1 + x1) then (
      (isO O M4 v0 12).bind fun _ =>
      xcl (f_Calendarhall_countDays O f v0 x4 10 x5 M4) fun x7 M5 =>
      if yw x7 = yw (v4 - (1 + x1)) then (
        (isO O M5 v0 12).bind fun _ =>
        xcl (f_Calendarhall_seriesAt O f v0 v2 10 M5) fun x8 M6 =>
        if yw x8 = yw 2 then (
          (isO O M6 v0 12).bind fun _ =>
          xcl (f_Calendarhall_seriesAt O f v0 v2 11 M6) fun x9 M7 =>
          (aJ O M7 v3 (1 + x1)).bind fun x10 =>
          if yw x9 = yw (x10 - 1) then (
            f_Law_isCut_115 O f f v0 v2 v3 v4 v5 (1 + x1) x4 x5 0 M7
          ) else
          some (0, M7)
        ) else
        some (0, M6)
      ) else
      some (0, M5)
    ) else
    some (0, M4)
  ) else
  some (1, M)
set_option maxRecDepth 20000 in
theorem k_f_Law_isCut (O : Nat → Option va_E) (f d : Nat) (v0 : Nat) (v1 : Nat) (v2 : Int) (v3 : Nat) (v4 : Int) (v5 : Nat) (M : xM) : xZ oJ O (d + 8) 125 0 [(0, .ref v0), (1, .ref v1), (2, .int (yw v2)), (3, .ref v3), (4, .int (yw v4)), (5, .ref v5)] [] M (f_Law_isCut O f v0 v1 v2 v3 v4 v5 M) := by
  unfold f_Law_isCut
  refine xZ.adv (me := xm125) hP_125 2 (pc' := 3) (lv' := [(0, .ref v0), (1, .ref v1), (2, .int (yw v2)), (3, .ref v3), (4, .int (yw v4)), (5, .ref v5)]) (st' := [.int (2 : Int32), .int (yw v4)]) rfl ?_
  refine xZ.eqs (lv2 := [(0, .ref v0), (1, .ref v1), (2, .int (yw v2)), (3, .ref v3), (4, .int (yw v4)), (5, .ref v5)]) (st2 := [.int (yw 2), .int (yw v4)]) rfl (by simp only [yl_lit, yL_lit, yw_add, yw_sub, yw_mul, yw_neg, yl_add, yl_sub, yl_mul, cj_and, cj_or, cj_xor, cj_shl, cj_shr, cj_ushr, cj_div, cj_i2c, cj_i2b, cj_dc, ck_and, ck_or, ck_xor, ck_shl, ck_shr, ck_ushr, ck_i2l, ck_l2i, ck_cmp]) ?_
  refine xZ.jc_ge (me := xm125) hP_125 rfl (fun h1 => ?_) (fun h1 => ?_)
  · skip
    refine xZ.adv (me := xm125) hP_125 5 (pc' := 14) (lv' := [(0, .ref v0), (1, .ref v1), (2, .int (yw v2)), (3, .ref v3), (4, .int (yw v4)), (5, .ref v5)]) (st' := [.int ((yw v4) - (1 : Int32)), .ref v1, .int (1 : Int32)]) rfl ?_
    refine xZ.eqs (lv2 := [(0, .ref v0), (1, .ref v1), (2, .int (yw v2)), (3, .ref v3), (4, .int (yw v4)), (5, .ref v5)]) (st2 := [.int (yw (v4 - 1)), .ref v1, .int (yw 1)]) rfl (by simp only [yl_lit, yL_lit, yw_add, yw_sub, yw_mul, yw_neg, yl_add, yl_sub, yl_mul, cj_and, cj_or, cj_xor, cj_shl, cj_shr, cj_ushr, cj_div, cj_i2c, cj_i2b, cj_dc, ck_and, ck_or, ck_xor, ck_shl, ck_shr, ck_ushr, ck_i2l, ck_l2i, ck_cmp]) ?_
    refine xZ.callv (κ := oJ) (av := [.int (yw (v4 - 1))]) (rest := [.int (yw 1)]) (st' := fun x1 => [.int (yw x1), .int (yw 1)]) (k0 := v1) (me := xm125) hP_125 rfl (Or.inl rfl) ⟨rfl, by decide⟩ rfl rfl (Nat.le_of_ble_eq_true rfl) (by decide) hP_12 (Nat.le_of_ble_eq_true rfl) (fun _ => rfl) (k_f_LDraw_n O f (d + 7) v1 (v4 - 1) M) (fun x1 M1 => ?_)
    refine xZ.adv (me := xm125) hP_125 6 (pc' := 25) (lv' := [(6, .int ((yw 1) + (yw x1))), (0, .ref v0), (1, .ref v1), (2, .int (yw v2)), (3, .ref v3), (4, .int (yw v4)), (5, .ref v5)]) (st' := [.int ((yw 1) + (yw x1)), .ref v3, .int (yw v2), .ref v0]) rfl ?_
    refine xZ.eqs (lv2 := [(6, .int (yw (1 + x1))), (0, .ref v0), (1, .ref v1), (2, .int (yw v2)), (3, .ref v3), (4, .int (yw v4)), (5, .ref v5)]) (st2 := [.int (yw (1 + x1)), .ref v3, .int (yw v2), .ref v0]) (by simp only [yl_lit, yL_lit, yw_add, yw_sub, yw_mul, yw_neg, yl_add, yl_sub, yl_mul, cj_and, cj_or, cj_xor, cj_shl, cj_shr, cj_ushr, cj_div, cj_i2c, cj_i2b, cj_dc, ck_and, ck_or, ck_xor, ck_shl, ck_shr, ck_ushr, ck_i2l, ck_l2i, ck_cmp]) (by simp only [yl_lit, yL_lit, yw_add, yw_sub, yw_mul, yw_neg, yl_add, yl_sub, yl_mul, cj_and, cj_or, cj_xor, cj_shl, cj_shr, cj_ushr, cj_div, cj_i2c, cj_i2b, cj_dc, ck_and, ck_or, ck_xor, ck_shl, ck_shr, ck_ushr, ck_i2l, ck_l2i, ck_cmp]) ?_
    refine xZ.k_aJ (me := xm125) hP_125 rfl (fun x2 => ?_)
    refine xZ.adv (me := xm125) hP_125 3 (pc' := 29) (lv' := [(6, .int (yw (1 + x1))), (0, .ref v0), (1, .ref v1), (2, .int (yw v2)), (3, .ref v3), (4, .int (yw v4)), (5, .ref v5)]) (st' := [.int (2 : Int32), .int (yw v2), .ref v0, .int (yw x2), .int (yw v2), .ref v0]) rfl ?_
    refine xZ.eqs (lv2 := [(6, .int (yw (1 + x1))), (0, .ref v0), (1, .ref v1), (2, .int (yw v2)), (3, .ref v3), (4, .int (yw v4)), (5, .ref v5)]) (st2 := [.int (yw 2), .int (yw v2), .ref v0, .int (yw x2), .int (yw v2), .ref v0]) rfl (by simp only [yl_lit, yL_lit, yw_add, yw_sub, yw_mul, yw_neg, yl_add, yl_sub, yl_mul, cj_and, cj_or, cj_xor, cj_shl, cj_shr, cj_ushr, cj_div, cj_i2c, cj_i2b, cj_dc, ck_and, ck_or, ck_xor, ck_shl, ck_shr, ck_ushr, ck_i2l, ck_l2i, ck_cmp]) ?_
    refine xZ.callv (κ := oJ) (av := [.int (yw v2), .int (yw 2)]) (rest := [.int (yw x2), .int (yw v2), .ref v0]) (st' := fun x3 => [.int (yw x3), .int (yw x2), .int (yw v2), .ref v0]) (k0 := v0) (me := xm125) hP_125 rfl (Or.inl rfl) ⟨rfl, by decide⟩ rfl rfl (Nat.le_of_ble_eq_true rfl) (by decide) hP_126 (Nat.le_of_ble_eq_true rfl) (fun _ => rfl) (k_f_Calendarhall_seriesAt O f (d + 5) v0 v2 2 M1) (fun x3 M2 => ?_)
    refine xZ.adv (me := xm125) hP_125 1 (pc' := 34) (lv' := [(6, .int (yw (1 + x1))), (0, .ref v0), (1, .ref v1), (2, .int (yw v2)), (3, .ref v3), (4, .int (yw v4)), (5, .ref v5)]) (st' := [.int (30 : Int32), .int (yw x3), .int (yw x2), .int (yw v2), .ref v0]) rfl ?_
    refine xZ.eqs (lv2 := [(6, .int (yw (1 + x1))), (0, .ref v0), (1, .ref v1), (2, .int (yw v2)), (3, .ref v3), (4, .int (yw v4)), (5, .ref v5)]) (st2 := [.int (yw 30), .int (yw x3), .int (yw x2), .int (yw v2), .ref v0]) rfl (by simp only [yl_lit, yL_lit, yw_add, yw_sub, yw_mul, yw_neg, yl_add, yl_sub, yl_mul, cj_and, cj_or, cj_xor, cj_shl, cj_shr, cj_ushr, cj_div, cj_i2c, cj_i2b, cj_dc, ck_and, ck_or, ck_xor, ck_shl, ck_shr, ck_ushr, ck_i2l, ck_l2i, ck_cmp]) ?_
    refine xZ.callv (κ := oJ) (av := [.int (yw v2), .int (yw x2), .int (yw x3), .int (yw 30)]) (rest := []) (st' := fun x4 => [.int (yw x4)]) (k0 := v0) (me := xm125) hP_125 rfl (Or.inl rfl) ⟨rfl, by decide⟩ rfl rfl (Nat.le_of_ble_eq_true rfl) (by decide) hP_128 (Nat.le_of_ble_eq_true rfl) (fun _ => rfl) (k_f_Calendarhall_fromHere O f (d + 0) v0 v2 x2 x3 30 M2) (fun x4 M3 => ?_)
    refine xZ.adv (me := xm125) hP_125 5 (pc' := 44) (lv' := [(7, .int (yw x4)), (6, .int (yw (1 + x1))), (0, .ref v0), (1, .ref v1), (2, .int (yw v2)), (3, .ref v3), (4, .int (yw v4)), (5, .ref v5)]) (st' := [.int ((yw v4) - (1 : Int32)), .ref v3]) rfl ?_
    refine xZ.eqs (lv2 := [(7, .int (yw x4)), (6, .int (yw (1 + x1))), (0, .ref v0), (1, .ref v1), (2, .int (yw v2)), (3, .ref v3), (4, .int (yw v4)), (5, .ref v5)]) (st2 := [.int (yw (v4 - 1)), .ref v3]) rfl (by simp only [yl_lit, yL_lit, yw_add, yw_sub, yw_mul, yw_neg, yl_add, yl_sub, yl_mul, cj_and, cj_or, cj_xor, cj_shl, cj_shr, cj_ushr, cj_div, cj_i2c, cj_i2b, cj_dc, ck_and, ck_or, ck_xor, ck_shl, ck_shr, ck_ushr, ck_i2l, ck_l2i, ck_cmp]) ?_
    refine xZ.k_aJ (me := xm125) hP_125 rfl (fun x5 => ?_)
    refine xZ.adv (me := xm125) hP_125 5 (pc' := 53) (lv' := [(8, .int (yw x5)), (7, .int (yw x4)), (6, .int (yw (1 + x1))), (0, .ref v0), (1, .ref v1), (2, .int (yw v2)), (3, .ref v3), (4, .int (yw v4)), (5, .ref v5)]) (st' := [.int (yw x5), .int (10 : Int32), .int (yw v2), .ref v0]) rfl ?_
    refine xZ.eqs (lv2 := [(8, .int (yw x5)), (7, .int (yw x4)), (6, .int (yw (1 + x1))), (0, .ref v0), (1, .ref v1), (2, .int (yw v2)), (3, .ref v3), (4, .int (yw v4)), (5, .ref v5)]) (st2 := [.int (yw x5), .int (yw 10), .int (yw v2), .ref v0]) rfl (by simp only [yl_lit, yL_lit, yw_add, yw_sub, yw_mul, yw_neg, yl_add, yl_sub, yl_mul, cj_and, cj_or, cj_xor, cj_shl, cj_shr, cj_ushr, cj_div, cj_i2c, cj_i2b, cj_dc, ck_and, ck_or, ck_xor, ck_shl, ck_shr, ck_ushr, ck_i2l, ck_l2i, ck_cmp]) ?_
    refine xZ.callv (κ := oJ) (av := [.int (yw v2), .int (yw 10), .int (yw x5)]) (rest := []) (st' := fun x6 => [.int (yw x6)]) (k0 := v0) (me := xm125) hP_125 rfl (Or.inl rfl) ⟨rfl, by decide⟩ rfl rfl (Nat.le_of_ble_eq_true rfl) (by decide) hP_93 (Nat.le_of_ble_eq_true rfl) (fun _ => rfl) (k_f_Calendarhall_countDays O f (d + 2) v0 v2 10 x5 M3) (fun x6 M4 => ?_)
    refine xZ.adv (me := xm125) hP_125 3 (pc' := 62) (lv' := [(9, .int (yw x6)), (8, .int (yw x5)), (7, .int (yw x4)), (6, .int (yw (1 + x1))), (0, .ref v0), (1, .ref v1), (2, .int (yw v2)), (3, .ref v3), (4, .int (yw v4)), (5, .ref v5)]) (st' := [.int (yw (1 + x1)), .int (yw x6)]) rfl ?_
    refine xZ.jc_ne (me := xm125) hP_125 rfl (fun h2 => ?_) (fun h2 => ?_)
    · skip
      refine xZ.adv (me := xm125) hP_125 4 (pc' := 72) (lv' := [(9, .int (yw x6)), (8, .int (yw x5)), (7, .int (yw x4)), (6, .int (yw (1 + x1))), (0, .ref v0), (1, .ref v1), (2, .int (yw v2)), (3, .ref v3), (4, .int (yw v4)), (5, .ref v5)]) (st' := [.int (yw x5), .int (10 : Int32), .int (yw x4), .ref v0]) rfl ?_
      refine xZ.eqs (lv2 := [(9, .int (yw x6)), (8, .int (yw x5)), (7, .int (yw x4)), (6, .int (yw (1 + x1))), (0, .ref v0), (1, .ref v1), (2, .int (yw v2)), (3, .ref v3), (4, .int (yw v4)), (5, .ref v5)]) (st2 := [.int (yw x5), .int (yw 10), .int (yw x4), .ref v0]) rfl (by simp only [yl_lit, yL_lit, yw_add, yw_sub, yw_mul, yw_neg, yl_add, yl_sub, yl_mul, cj_and, cj_or, cj_xor, cj_shl, cj_shr, cj_ushr, cj_div, cj_i2c, cj_i2b, cj_dc, ck_and, ck_or, ck_xor, ck_shl, ck_shr, ck_ushr, ck_i2l, ck_l2i, ck_cmp]) ?_
      refine xZ.callv (κ := oJ) (av := [.int (yw x4), .int (yw 10), .int (yw x5)]) (rest := []) (st' := fun x7 => [.int (yw x7)]) (k0 := v0) (me := xm125) hP_125 rfl (Or.inl rfl) ⟨rfl, by decide⟩ rfl rfl (Nat.le_of_ble_eq_true rfl) (by decide) hP_93 (Nat.le_of_ble_eq_true rfl) (fun _ => rfl) (k_f_Calendarhall_countDays O f (d + 2) v0 x4 10 x5 M4) (fun x7 M5 => ?_)
      refine xZ.adv (me := xm125) hP_125 3 (pc' := 80) (lv' := [(9, .int (yw x6)), (8, .int (yw x5)), (7, .int (yw x4)), (6, .int (yw (1 + x1))), (0, .ref v0), (1, .ref v1), (2, .int (yw v2)), (3, .ref v3), (4, .int (yw v4)), (5, .ref v5)]) (st' := [.int ((yw v4) - (yw (1 + x1))), .int (yw x7)]) rfl ?_
      refine xZ.eqs (lv2 := [(9, .int (yw x6)), (8, .int (yw x5)), (7, .int (yw x4)), (6, .int (yw (1 + x1))), (0, .ref v0), (1, .ref v1), (2, .int (yw v2)), (3, .ref v3), (4, .int (yw v4)), (5, .ref v5)]) (st2 := [.int (yw (v4 - (1 + x1))), .int (yw x7)]) rfl (by simp only [yl_lit, yL_lit, yw_add, yw_sub, yw_mul, yw_neg, yl_add, yl_sub, yl_mul, cj_and, cj_or, cj_xor, cj_shl, cj_shr, cj_ushr, cj_div, cj_i2c, cj_i2b, cj_dc, ck_and, ck_or, ck_xor, ck_shl, ck_shr, ck_ushr, ck_i2l, ck_l2i, ck_cmp]) ?_
      refine xZ.jc_ne (me := xm125) hP_125 rfl (fun h3 => ?_) (fun h3 => ?_)
      · skip
        refine xZ.adv (me := xm125) hP_125 3 (pc' := 87) (lv' := [(9, .int (yw x6)), (8, .int (yw x5)), (7, .int (yw x4)), (6, .int (yw (1 + x1))), (0, .ref v0), (1, .ref v1), (2, .int (yw v2)), (3, .ref v3), (4, .int (yw v4)), (5, .ref v5)]) (st' := [.int (10 : Int32), .int (yw v2), .ref v0]) rfl ?_
        refine xZ.eqs (lv2 := [(9, .int (yw x6)), (8, .int (yw x5)), (7, .int (yw x4)), (6, .int (yw (1 + x1))), (0, .ref v0), (1, .ref v1), (2, .int (yw v2)), (3, .ref v3), (4, .int (yw v4)), (5, .ref v5)]) (st2 := [.int (yw 10), .int (yw v2), .ref v0]) rfl (by simp only [yl_lit, yL_lit, yw_add, yw_sub, yw_mul, yw_neg, yl_add, yl_sub, yl_mul, cj_and, cj_or, cj_xor, cj_shl, cj_shr, cj_ushr, cj_div, cj_i2c, cj_i2b, cj_dc, ck_and, ck_or, ck_xor, ck_shl, ck_shr, ck_ushr, ck_i2l, ck_l2i, ck_cmp]) ?_
        refine xZ.callv (κ := oJ) (av := [.int (yw v2), .int (yw 10)]) (rest := []) (st' := fun x8 => [.int (yw x8)]) (k0 := v0) (me := xm125) hP_125 rfl (Or.inl rfl) ⟨rfl, by decide⟩ rfl rfl (Nat.le_of_ble_eq_true rfl) (by decide) hP_126 (Nat.le_of_ble_eq_true rfl) (fun _ => rfl) (k_f_Calendarhall_seriesAt O f (d + 5) v0 v2 10 M5) (fun x8 M6 => ?_)
        refine xZ.adv (me := xm125) hP_125 1 (pc' := 91) (lv' := [(9, .int (yw x6)), (8, .int (yw x5)), (7, .int (yw x4)), (6, .int (yw (1 + x1))), (0, .ref v0), (1, .ref v1), (2, .int (yw v2)), (3, .ref v3), (4, .int (yw v4)), (5, .ref v5)]) (st' := [.int (2 : Int32), .int (yw x8)]) rfl ?_
        refine xZ.eqs (lv2 := [(9, .int (yw x6)), (8, .int (yw x5)), (7, .int (yw x4)), (6, .int (yw (1 + x1))), (0, .ref v0), (1, .ref v1), (2, .int (yw v2)), (3, .ref v3), (4, .int (yw v4)), (5, .ref v5)]) (st2 := [.int (yw 2), .int (yw x8)]) rfl (by simp only [yl_lit, yL_lit, yw_add, yw_sub, yw_mul, yw_neg, yl_add, yl_sub, yl_mul, cj_and, cj_or, cj_xor, cj_shl, cj_shr, cj_ushr, cj_div, cj_i2c, cj_i2b, cj_dc, ck_and, ck_or, ck_xor, ck_shl, ck_shr, ck_ushr, ck_i2l, ck_l2i, ck_cmp]) ?_
        refine xZ.jc_ne (me := xm125) hP_125 rfl (fun h4 => ?_) (fun h4 => ?_)
        · skip
          refine xZ.adv (me := xm125) hP_125 3 (pc' := 98) (lv' := [(9, .int (yw x6)), (8, .int (yw x5)), (7, .int (yw x4)), (6, .int (yw (1 + x1))), (0, .ref v0), (1, .ref v1), (2, .int (yw v2)), (3, .ref v3), (4, .int (yw v4)), (5, .ref v5)]) (st' := [.int (11 : Int32), .int (yw v2), .ref v0]) rfl ?_
          refine xZ.eqs (lv2 := [(9, .int (yw x6)), (8, .int (yw x5)), (7, .int (yw x4)), (6, .int (yw (1 + x1))), (0, .ref v0), (1, .ref v1), (2, .int (yw v2)), (3, .ref v3), (4, .int (yw v4)), (5, .ref v5)]) (st2 := [.int (yw 11), .int (yw v2), .ref v0]) rfl (by simp only [yl_lit, yL_lit, yw_add, yw_sub, yw_mul, yw_neg, yl_add, yl_sub, yl_mul, cj_and, cj_or, cj_xor, cj_shl, cj_shr, cj_ushr, cj_div, cj_i2c, cj_i2b, cj_dc, ck_and, ck_or, ck_xor, ck_shl, ck_shr, ck_ushr, ck_i2l, ck_l2i, ck_cmp]) ?_
          refine xZ.callv (κ := oJ) (av := [.int (yw v2), .int (yw 11)]) (rest := []) (st' := fun x9 => [.int (yw x9)]) (k0 := v0) (me := xm125) hP_125 rfl (Or.inl rfl) ⟨rfl, by decide⟩ rfl rfl (Nat.le_of_ble_eq_true rfl) (by decide) hP_126 (Nat.le_of_ble_eq_true rfl) (fun _ => rfl) (k_f_Calendarhall_seriesAt O f (d + 5) v0 v2 11 M6) (fun x9 M7 => ?_)
          refine xZ.adv (me := xm125) hP_125 2 (pc' := 104) (lv' := [(9, .int (yw x6)), (8, .int (yw x5)), (7, .int (yw x4)), (6, .int (yw (1 + x1))), (0, .ref v0), (1, .ref v1), (2, .int (yw v2)), (3, .ref v3), (4, .int (yw v4)), (5, .ref v5)]) (st' := [.int (yw (1 + x1)), .ref v3, .int (yw x9)]) rfl ?_
          refine xZ.k_aJ (me := xm125) hP_125 rfl (fun x10 => ?_)
          refine xZ.adv (me := xm125) hP_125 2 (pc' := 107) (lv' := [(9, .int (yw x6)), (8, .int (yw x5)), (7, .int (yw x4)), (6, .int (yw (1 + x1))), (0, .ref v0), (1, .ref v1), (2, .int (yw v2)), (3, .ref v3), (4, .int (yw v4)), (5, .ref v5)]) (st' := [.int ((yw x10) - (1 : Int32)), .int (yw x9)]) rfl ?_
          refine xZ.eqs (lv2 := [(9, .int (yw x6)), (8, .int (yw x5)), (7, .int (yw x4)), (6, .int (yw (1 + x1))), (0, .ref v0), (1, .ref v1), (2, .int (yw v2)), (3, .ref v3), (4, .int (yw v4)), (5, .ref v5)]) (st2 := [.int (yw (x10 - 1)), .int (yw x9)]) rfl (by simp only [yl_lit, yL_lit, yw_add, yw_sub, yw_mul, yw_neg, yl_add, yl_sub, yl_mul, cj_and, cj_or, cj_xor, cj_shl, cj_shr, cj_ushr, cj_div, cj_i2c, cj_i2b, cj_dc, ck_and, ck_or, ck_xor, ck_shl, ck_shr, ck_ushr, ck_i2l, ck_l2i, ck_cmp]) ?_
          refine xZ.jc_eq (me := xm125) hP_125 rfl (fun h5 => ?_) (fun h5 => ?_)
          · skip
            refine xZ.adv (me := xm125) hP_125 2 (pc' := 115) (lv' := [(10, .int (0 : Int32)), (9, .int (yw x6)), (8, .int (yw x5)), (7, .int (yw x4)), (6, .int (yw (1 + x1))), (0, .ref v0), (1, .ref v1), (2, .int (yw v2)), (3, .ref v3), (4, .int (yw v4)), (5, .ref v5)]) (st' := []) rfl ?_
            refine xZ.eqs (lv2 := [(10, .int (yw 0)), (9, .int (yw x6)), (8, .int (yw x5)), (7, .int (yw x4)), (6, .int (yw (1 + x1))), (0, .ref v0), (1, .ref v1), (2, .int (yw v2)), (3, .ref v3), (4, .int (yw v4)), (5, .ref v5)]) (st2 := []) (by simp only [yl_lit, yL_lit, yw_add, yw_sub, yw_mul, yw_neg, yl_add, yl_sub, yl_mul, cj_and, cj_or, cj_xor, cj_shl, cj_shr, cj_ushr, cj_div, cj_i2c, cj_i2b, cj_dc, ck_and, ck_or, ck_xor, ck_shl, ck_shr, ck_ushr, ck_i2l, ck_l2i, ck_cmp]) rfl ?_
            exact xZ.sub (xsc (.tail _ (.tail _ (.tail _ (.tail _ (.tail _ (.head _)))))) (xsc (.tail _ (.tail _ (.tail _ (.tail _ (.tail _ (.tail _ (.tail _ (.head _)))))))) (xsc (.tail _ (.tail _ (.tail _ (.tail _ (.tail _ (.tail _ (.tail _ (.tail _ (.head _))))))))) (xsc (.tail _ (.tail _ (.tail _ (.tail _ (.tail _ (.tail _ (.tail _ (.tail _ (.tail _ (.head _)))))))))) (xsc (.tail _ (.tail _ (.tail _ (.tail _ (.tail _ (.tail _ (.tail _ (.tail _ (.tail _ (.tail _ (.head _))))))))))) (xsc (.tail _ (.tail _ (.tail _ (.tail _ (.head _))))) (xsc (.tail _ (.tail _ (.tail _ (.head _)))) (xsc (.tail _ (.tail _ (.head _))) (xsc (.head _) xsn))))))))) (show ([10, 9, 8, 7, 6, 0, 1, 2, 3, 4, 5] : List Nat).Nodup from by decide) (k_f_Law_isCut_115 O f d f v0 v2 v3 v4 v5 (1 + x1) x4 x5 0 M7)
          · skip
            refine xZ.adv (me := xm125) hP_125 1 (pc' := 111) (lv' := [(9, .int (yw x6)), (8, .int (yw x5)), (7, .int (yw x4)), (6, .int (yw (1 + x1))), (0, .ref v0), (1, .ref v1), (2, .int (yw v2)), (3, .ref v3), (4, .int (yw v4)), (5, .ref v5)]) (st' := [.int (0 : Int32)]) rfl ?_
            refine xZ.eqs (lv2 := [(9, .int (yw x6)), (8, .int (yw x5)), (7, .int (yw x4)), (6, .int (yw (1 + x1))), (0, .ref v0), (1, .ref v1), (2, .int (yw v2)), (3, .ref v3), (4, .int (yw v4)), (5, .ref v5)]) (st2 := [.int (yw 0)]) rfl (by simp only [yl_lit, yL_lit, yw_add, yw_sub, yw_mul, yw_neg, yl_add, yl_sub, yl_mul, cj_and, cj_or, cj_xor, cj_shl, cj_shr, cj_ushr, cj_div, cj_i2c, cj_i2b, cj_dc, ck_and, ck_or, ck_xor, ck_shl, ck_shr, ck_ushr, ck_i2l, ck_l2i, ck_cmp]) ?_
            exact xZ.jrete (me := xm125) hP_125 rfl rfl rfl
        · skip
          refine xZ.adv (me := xm125) hP_125 1 (pc' := 111) (lv' := [(9, .int (yw x6)), (8, .int (yw x5)), (7, .int (yw x4)), (6, .int (yw (1 + x1))), (0, .ref v0), (1, .ref v1), (2, .int (yw v2)), (3, .ref v3), (4, .int (yw v4)), (5, .ref v5)]) (st' := [.int (0 : Int32)]) rfl ?_
          refine xZ.eqs (lv2 := [(9, .int (yw x6)), (8, .int (yw x5)), (7, .int (yw x4)), (6, .int (yw (1 + x1))), (0, .ref v0), (1, .ref v1), (2, .int (yw v2)), (3, .ref v3), (4, .int (yw v4)), (5, .ref v5)]) (st2 := [.int (yw 0)]) rfl (by simp only [yl_lit, yL_lit, yw_add, yw_sub, yw_mul, yw_neg, yl_add, yl_sub, yl_mul, cj_and, cj_or, cj_xor, cj_shl, cj_shr, cj_ushr, cj_div, cj_i2c, cj_i2b, cj_dc, ck_and, ck_or, ck_xor, ck_shl, ck_shr, ck_ushr, ck_i2l, ck_l2i, ck_cmp]) ?_
          exact xZ.jrete (me := xm125) hP_125 rfl rfl rfl
      · skip
        refine xZ.adv (me := xm125) hP_125 1 (pc' := 111) (lv' := [(9, .int (yw x6)), (8, .int (yw x5)), (7, .int (yw x4)), (6, .int (yw (1 + x1))), (0, .ref v0), (1, .ref v1), (2, .int (yw v2)), (3, .ref v3), (4, .int (yw v4)), (5, .ref v5)]) (st' := [.int (0 : Int32)]) rfl ?_
        refine xZ.eqs (lv2 := [(9, .int (yw x6)), (8, .int (yw x5)), (7, .int (yw x4)), (6, .int (yw (1 + x1))), (0, .ref v0), (1, .ref v1), (2, .int (yw v2)), (3, .ref v3), (4, .int (yw v4)), (5, .ref v5)]) (st2 := [.int (yw 0)]) rfl (by simp only [yl_lit, yL_lit, yw_add, yw_sub, yw_mul, yw_neg, yl_add, yl_sub, yl_mul, cj_and, cj_or, cj_xor, cj_shl, cj_shr, cj_ushr, cj_div, cj_i2c, cj_i2b, cj_dc, ck_and, ck_or, ck_xor, ck_shl, ck_shr, ck_ushr, ck_i2l, ck_l2i, ck_cmp]) ?_
        exact xZ.jrete (me := xm125) hP_125 rfl rfl rfl
    · skip
      refine xZ.adv (me := xm125) hP_125 1 (pc' := 111) (lv' := [(9, .int (yw x6)), (8, .int (yw x5)), (7, .int (yw x4)), (6, .int (yw (1 + x1))), (0, .ref v0), (1, .ref v1), (2, .int (yw v2)), (3, .ref v3), (4, .int (yw v4)), (5, .ref v5)]) (st' := [.int (0 : Int32)]) rfl ?_
      refine xZ.eqs (lv2 := [(9, .int (yw x6)), (8, .int (yw x5)), (7, .int (yw x4)), (6, .int (yw (1 + x1))), (0, .ref v0), (1, .ref v1), (2, .int (yw v2)), (3, .ref v3), (4, .int (yw v4)), (5, .ref v5)]) (st2 := [.int (yw 0)]) rfl (by simp only [yl_lit, yL_lit, yw_add, yw_sub, yw_mul, yw_neg, yl_add, yl_sub, yl_mul, cj_and, cj_or, cj_xor, cj_shl, cj_shr, cj_ushr, cj_div, cj_i2c, cj_i2b, cj_dc, ck_and, ck_or, ck_xor, ck_shl, ck_shr, ck_ushr, ck_i2l, ck_l2i, ck_cmp]) ?_
      exact xZ.jrete (me := xm125) hP_125 rfl rfl rfl
  · skip
    refine xZ.adv (me := xm125) hP_125 1 (pc' := 7) (lv' := [(0, .ref v0), (1, .ref v1), (2, .int (yw v2)), (3, .ref v3), (4, .int (yw v4)), (5, .ref v5)]) (st' := [.int (1 : Int32)]) rfl ?_
    refine xZ.eqs (lv2 := [(0, .ref v0), (1, .ref v1), (2, .int (yw v2)), (3, .ref v3), (4, .int (yw v4)), (5, .ref v5)]) (st2 := [.int (yw 1)]) rfl (by simp only [yl_lit, yL_lit, yw_add, yw_sub, yw_mul, yw_neg, yl_add, yl_sub, yl_mul, cj_and, cj_or, cj_xor, cj_shl, cj_shr, cj_ushr, cj_div, cj_i2c, cj_i2b, cj_dc, ck_and, ck_or, ck_xor, ck_shl, ck_shr, ck_ushr, ck_i2l, ck_l2i, ck_cmp]) ?_
    exact xZ.jrete (me := xm125) hP_125 rfl rfl rfl
def f_Law_areDays_333 (O : Nat → Option va_E) (f : Nat) (K287 : Nat → Nat → Nat → Nat → Int → Nat → Int → Int → Int → xM → Option (Int × xM)) (v0 : Nat) (v1 : Nat) (v2 : Nat) (v3 : Nat) (v6 : Int) (v8 : Nat) (v9 : Int) (v10 : Int) (v11 : Int) (s0 : Int) (M : xM) : Option (Int × xM) :=
  if yw s0 = yw 0 then (
    (isO O M v3 16).bind fun _ =>
    xcl (f_LRule_holds O f v3 v2 v11 M) fun x1 M1 =>
    if yw x1 = yw 0 then (
      K287 v0 v1 v2 v3 v6 v8 v9 v10 (v11 + 1) M1
    ) else
    (wJ M1 v8 v9 v11).bind fun M2 =>
    K287 v0 v1 v2 v3 v6 v8 (v9 + 1) v10 (v11 + 1) M2
  ) else
  K287 v0 v1 v2 v3 v6 v8 v9 v10 (v11 + 1) M
set_option maxRecDepth 20000 in
theorem k_f_Law_areDays_333 (O : Nat → Option va_E) (f d : Nat) (K287 : Nat → Nat → Nat → Nat → Int → Nat → Int → Int → Int → xM → Option (Int × xM)) (hK287 : ∀ (v0 : Nat) (v1 : Nat) (v2 : Nat) (v3 : Nat) (v6 : Int) (v8 : Nat) (v9 : Int) (v10 : Int) (v11 : Int) M, xZ oJ O (d + 11) 13 287 [(0, .ref v0), (1, .ref v1), (2, .ref v2), (3, .ref v3), (6, .int (yw v6)), (8, .ref v8), (9, .int (yw v9)), (10, .int (yw v10)), (11, .int (yw v11))] [] M (K287 v0 v1 v2 v3 v6 v8 v9 v10 v11 M)) (v0 : Nat) (v1 : Nat) (v2 : Nat) (v3 : Nat) (v6 : Int) (v8 : Nat) (v9 : Int) (v10 : Int) (v11 : Int) (s0 : Int) (M : xM) : xZ oJ O (d + 11) 13 333 [(0, .ref v0), (1, .ref v1), (2, .ref v2), (3, .ref v3), (6, .int (yw v6)), (8, .ref v8), (9, .int (yw v9)), (10, .int (yw v10)), (11, .int (yw v11))] [.int (yw s0)] M (f_Law_areDays_333 O f K287 v0 v1 v2 v3 v6 v8 v9 v10 v11 s0 M) := by
  unfold f_Law_areDays_333
  refine xZ.adv (me := xm13) hP_13 2 (pc' := 337) (lv' := [(12, .int (yw s0)), (0, .ref v0), (1, .ref v1), (2, .ref v2), (3, .ref v3), (6, .int (yw v6)), (8, .ref v8), (9, .int (yw v9)), (10, .int (yw v10)), (11, .int (yw v11))]) (st' := [.int (yw s0)]) rfl ?_
  refine xZ.jf_ne (me := xm13) hP_13 rfl (fun h1 => ?_) (fun h1 => ?_)
  · skip
    refine xZ.adv (me := xm13) hP_13 3 (pc' := 344) (lv' := [(12, .int (yw s0)), (0, .ref v0), (1, .ref v1), (2, .ref v2), (3, .ref v3), (6, .int (yw v6)), (8, .ref v8), (9, .int (yw v9)), (10, .int (yw v10)), (11, .int (yw v11))]) (st' := [.int (yw v11), .ref v2, .ref v3]) rfl ?_
    refine xZ.callv (κ := oJ) (av := [.ref v2, .int (yw v11)]) (rest := []) (st' := fun x1 => [.int (yw x1)]) (k0 := v3) (me := xm13) hP_13 rfl (Or.inl rfl) ⟨rfl, by decide⟩ rfl rfl (Nat.le_of_ble_eq_true rfl) (by decide) hP_88 (Nat.le_of_ble_eq_true rfl) (fun _ => rfl) (k_f_LRule_holds O f (d + 8) v3 v2 v11 M) (fun x1 M1 => ?_)
    refine xZ.jf_ne (me := xm13) hP_13 rfl (fun h2 => ?_) (fun h2 => ?_)
    · skip
      refine xZ.adv (me := xm13) hP_13 3 (pc' := 287) (lv' := [(11, .int ((yw v11) + (1 : Int32))), (12, .int (yw s0)), (0, .ref v0), (1, .ref v1), (2, .ref v2), (3, .ref v3), (6, .int (yw v6)), (8, .ref v8), (9, .int (yw v9)), (10, .int (yw v10))]) (st' := []) rfl ?_
      refine xZ.eqs (lv2 := [(11, .int (yw (v11 + 1))), (12, .int (yw s0)), (0, .ref v0), (1, .ref v1), (2, .ref v2), (3, .ref v3), (6, .int (yw v6)), (8, .ref v8), (9, .int (yw v9)), (10, .int (yw v10))]) (st2 := []) (by simp only [yl_lit, yL_lit, yw_add, yw_sub, yw_mul, yw_neg, yl_add, yl_sub, yl_mul, cj_and, cj_or, cj_xor, cj_shl, cj_shr, cj_ushr, cj_div, cj_i2c, cj_i2b, cj_dc, ck_and, ck_or, ck_xor, ck_shl, ck_shr, ck_ushr, ck_i2l, ck_l2i, ck_cmp]) rfl ?_
      exact xZ.sub (xsc (.tail _ (.tail _ (.head _))) (xsc (.tail _ (.tail _ (.tail _ (.head _)))) (xsc (.tail _ (.tail _ (.tail _ (.tail _ (.head _))))) (xsc (.tail _ (.tail _ (.tail _ (.tail _ (.tail _ (.head _)))))) (xsc (.tail _ (.tail _ (.tail _ (.tail _ (.tail _ (.tail _ (.head _))))))) (xsc (.tail _ (.tail _ (.tail _ (.tail _ (.tail _ (.tail _ (.tail _ (.head _)))))))) (xsc (.tail _ (.tail _ (.tail _ (.tail _ (.tail _ (.tail _ (.tail _ (.tail _ (.head _))))))))) (xsc (.tail _ (.tail _ (.tail _ (.tail _ (.tail _ (.tail _ (.tail _ (.tail _ (.tail _ (.head _)))))))))) (xsc (.head _) xsn))))))))) (show ([11, 12, 0, 1, 2, 3, 6, 8, 9, 10] : List Nat).Nodup from by decide) (hK287 v0 v1 v2 v3 v6 v8 v9 v10 (v11 + 1) M1)
    · skip
      refine xZ.adv (me := xm13) hP_13 3 (pc' := 359) (lv' := [(12, .int (yw s0)), (0, .ref v0), (1, .ref v1), (2, .ref v2), (3, .ref v3), (6, .int (yw v6)), (8, .ref v8), (9, .int (yw v9)), (10, .int (yw v10)), (11, .int (yw v11))]) (st' := [.int (yw v11), .int (yw v9), .ref v8]) rfl ?_
      refine xZ.k_wJ (me := xm13) hP_13 rfl (fun M2 => ?_)
      refine xZ.adv (me := xm13) hP_13 3 (pc' := 287) (lv' := [(11, .int ((yw v11) + (1 : Int32))), (9, .int ((yw v9) + (1 : Int32))), (12, .int (yw s0)), (0, .ref v0), (1, .ref v1), (2, .ref v2), (3, .ref v3), (6, .int (yw v6)), (8, .ref v8), (10, .int (yw v10))]) (st' := []) rfl ?_
      refine xZ.eqs (lv2 := [(11, .int (yw (v11 + 1))), (9, .int (yw (v9 + 1))), (12, .int (yw s0)), (0, .ref v0), (1, .ref v1), (2, .ref v2), (3, .ref v3), (6, .int (yw v6)), (8, .ref v8), (10, .int (yw v10))]) (st2 := []) (by simp only [yl_lit, yL_lit, yw_add, yw_sub, yw_mul, yw_neg, yl_add, yl_sub, yl_mul, cj_and, cj_or, cj_xor, cj_shl, cj_shr, cj_ushr, cj_div, cj_i2c, cj_i2b, cj_dc, ck_and, ck_or, ck_xor, ck_shl, ck_shr, ck_ushr, ck_i2l, ck_l2i, ck_cmp]) rfl ?_
      exact xZ.sub (xsc (.tail _ (.tail _ (.tail _ (.head _)))) (xsc (.tail _ (.tail _ (.tail _ (.tail _ (.head _))))) (xsc (.tail _ (.tail _ (.tail _ (.tail _ (.tail _ (.head _)))))) (xsc (.tail _ (.tail _ (.tail _ (.tail _ (.tail _ (.tail _ (.head _))))))) (xsc (.tail _ (.tail _ (.tail _ (.tail _ (.tail _ (.tail _ (.tail _ (.head _)))))))) (xsc (.tail _ (.tail _ (.tail _ (.tail _ (.tail _ (.tail _ (.tail _ (.tail _ (.head _))))))))) (xsc (.tail _ (.head _)) (xsc (.tail _ (.tail _ (.tail _ (.tail _ (.tail _ (.tail _ (.tail _ (.tail _ (.tail _ (.head _)))))))))) (xsc (.head _) xsn))))))))) (show ([11, 9, 12, 0, 1, 2, 3, 6, 8, 10] : List Nat).Nodup from by decide) (hK287 v0 v1 v2 v3 v6 v8 (v9 + 1) v10 (v11 + 1) M2)
  · skip
    refine xZ.adv (me := xm13) hP_13 2 (pc' := 287) (lv' := [(11, .int ((yw v11) + (1 : Int32))), (12, .int (yw s0)), (0, .ref v0), (1, .ref v1), (2, .ref v2), (3, .ref v3), (6, .int (yw v6)), (8, .ref v8), (9, .int (yw v9)), (10, .int (yw v10))]) (st' := []) rfl ?_
    refine xZ.eqs (lv2 := [(11, .int (yw (v11 + 1))), (12, .int (yw s0)), (0, .ref v0), (1, .ref v1), (2, .ref v2), (3, .ref v3), (6, .int (yw v6)), (8, .ref v8), (9, .int (yw v9)), (10, .int (yw v10))]) (st2 := []) (by simp only [yl_lit, yL_lit, yw_add, yw_sub, yw_mul, yw_neg, yl_add, yl_sub, yl_mul, cj_and, cj_or, cj_xor, cj_shl, cj_shr, cj_ushr, cj_div, cj_i2c, cj_i2b, cj_dc, ck_and, ck_or, ck_xor, ck_shl, ck_shr, ck_ushr, ck_i2l, ck_l2i, ck_cmp]) rfl ?_
    exact xZ.sub (xsc (.tail _ (.tail _ (.head _))) (xsc (.tail _ (.tail _ (.tail _ (.head _)))) (xsc (.tail _ (.tail _ (.tail _ (.tail _ (.head _))))) (xsc (.tail _ (.tail _ (.tail _ (.tail _ (.tail _ (.head _)))))) (xsc (.tail _ (.tail _ (.tail _ (.tail _ (.tail _ (.tail _ (.head _))))))) (xsc (.tail _ (.tail _ (.tail _ (.tail _ (.tail _ (.tail _ (.tail _ (.head _)))))))) (xsc (.tail _ (.tail _ (.tail _ (.tail _ (.tail _ (.tail _ (.tail _ (.tail _ (.head _))))))))) (xsc (.tail _ (.tail _ (.tail _ (.tail _ (.tail _ (.tail _ (.tail _ (.tail _ (.tail _ (.head _)))))))))) (xsc (.head _) xsn))))))))) (show ([11, 12, 0, 1, 2, 3, 6, 8, 9, 10] : List Nat).Nodup from by decide) (hK287 v0 v1 v2 v3 v6 v8 v9 v10 (v11 + 1) M)
def f_Law_areDays_328 (O : Nat → Option va_E) (f : Nat) (K287 : Nat → Nat → Nat → Nat → Int → Nat → Int → Int → Int → xM → Option (Int × xM)) (v0 : Nat) (v1 : Nat) (v2 : Nat) (v3 : Nat) (v6 : Int) (v8 : Nat) (v9 : Int) (v10 : Int) (v11 : Int) (M : xM) : Option (Int × xM) :=
  f_Law_areDays_333 O f K287 v0 v1 v2 v3 v6 v8 v9 v10 v11 1 M
set_option maxRecDepth 20000 in
theorem k_f_Law_areDays_328 (O : Nat → Option va_E) (f d : Nat) (K287 : Nat → Nat → Nat → Nat → Int → Nat → Int → Int → Int → xM → Option (Int × xM)) (hK287 : ∀ (v0 : Nat) (v1 : Nat) (v2 : Nat) (v3 : Nat) (v6 : Int) (v8 : Nat) (v9 : Int) (v10 : Int) (v11 : Int) M, xZ oJ O (d + 11) 13 287 [(0, .ref v0), (1, .ref v1), (2, .ref v2), (3, .ref v3), (6, .int (yw v6)), (8, .ref v8), (9, .int (yw v9)), (10, .int (yw v10)), (11, .int (yw v11))] [] M (K287 v0 v1 v2 v3 v6 v8 v9 v10 v11 M)) (v0 : Nat) (v1 : Nat) (v2 : Nat) (v3 : Nat) (v6 : Int) (v8 : Nat) (v9 : Int) (v10 : Int) (v11 : Int) (M : xM) : xZ oJ O (d + 11) 13 328 [(0, .ref v0), (1, .ref v1), (2, .ref v2), (3, .ref v3), (6, .int (yw v6)), (8, .ref v8), (9, .int (yw v9)), (10, .int (yw v10)), (11, .int (yw v11))] [] M (f_Law_areDays_328 O f K287 v0 v1 v2 v3 v6 v8 v9 v10 v11 M) := by
  unfold f_Law_areDays_328
  refine xZ.adv (me := xm13) hP_13 2 (pc' := 333) (lv' := [(0, .ref v0), (1, .ref v1), (2, .ref v2), (3, .ref v3), (6, .int (yw v6)), (8, .ref v8), (9, .int (yw v9)), (10, .int (yw v10)), (11, .int (yw v11))]) (st' := [.int (1 : Int32)]) rfl ?_
  refine xZ.eqs (lv2 := [(0, .ref v0), (1, .ref v1), (2, .ref v2), (3, .ref v3), (6, .int (yw v6)), (8, .ref v8), (9, .int (yw v9)), (10, .int (yw v10)), (11, .int (yw v11))]) (st2 := [.int (yw 1)]) rfl (by simp only [yl_lit, yL_lit, yw_add, yw_sub, yw_mul, yw_neg, yl_add, yl_sub, yl_mul, cj_and, cj_or, cj_xor, cj_shl, cj_shr, cj_ushr, cj_div, cj_i2c, cj_i2b, cj_dc, ck_and, ck_or, ck_xor, ck_shl, ck_shr, ck_ushr, ck_i2l, ck_l2i, ck_cmp]) ?_
  exact (k_f_Law_areDays_333 O f d K287 hK287 v0 v1 v2 v3 v6 v8 v9 v10 v11 1 M)
def f_Law_areDays_435 (O : Nat → Option va_E) (f : Nat) (K382 : Nat → Nat → Nat → Int → Nat → Int → Int → Int → Int → xM → Option (Int × xM)) (v0 : Nat) (v1 : Nat) (v3 : Nat) (v6 : Int) (v8 : Nat) (v9 : Int) (v10 : Int) (v11 : Int) (v12 : Int) (M : xM) : Option (Int × xM) :=
  (isO O M v0 12).bind fun _ =>
  xcl (f_Calendarhall_nextDay O f v0 v6 (v12 + 1) M) fun x1 M1 =>
  K382 v0 v1 v3 v6 v8 v9 v10 (v11 + 1) x1 M1
set_option maxRecDepth 20000 in
theorem k_f_Law_areDays_435 (O : Nat → Option va_E) (f d : Nat) (K382 : Nat → Nat → Nat → Int → Nat → Int → Int → Int → Int → xM → Option (Int × xM)) (hK382 : ∀ (v0 : Nat) (v1 : Nat) (v3 : Nat) (v6 : Int) (v8 : Nat) (v9 : Int) (v10 : Int) (v11 : Int) (v12 : Int) M, xZ oJ O (d + 11) 13 382 [(0, .ref v0), (1, .ref v1), (3, .ref v3), (6, .int (yw v6)), (8, .ref v8), (9, .int (yw v9)), (10, .int (yw v10)), (11, .int (yw v11)), (12, .int (yw v12))] [] M (K382 v0 v1 v3 v6 v8 v9 v10 v11 v12 M)) (v0 : Nat) (v1 : Nat) (v3 : Nat) (v6 : Int) (v8 : Nat) (v9 : Int) (v10 : Int) (v11 : Int) (v12 : Int) (M : xM) : xZ oJ O (d + 11) 13 435 [(0, .ref v0), (1, .ref v1), (3, .ref v3), (6, .int (yw v6)), (8, .ref v8), (9, .int (yw v9)), (10, .int (yw v10)), (11, .int (yw v11)), (12, .int (yw v12))] [] M (f_Law_areDays_435 O f K382 v0 v1 v3 v6 v8 v9 v10 v11 v12 M) := by
  unfold f_Law_areDays_435
  refine xZ.adv (me := xm13) hP_13 6 (pc' := 445) (lv' := [(11, .int ((yw v11) + (1 : Int32))), (0, .ref v0), (1, .ref v1), (3, .ref v3), (6, .int (yw v6)), (8, .ref v8), (9, .int (yw v9)), (10, .int (yw v10)), (12, .int (yw v12))]) (st' := [.int ((yw v12) + (1 : Int32)), .int (yw v6), .ref v0]) rfl ?_
  refine xZ.eqs (lv2 := [(11, .int (yw (v11 + 1))), (0, .ref v0), (1, .ref v1), (3, .ref v3), (6, .int (yw v6)), (8, .ref v8), (9, .int (yw v9)), (10, .int (yw v10)), (12, .int (yw v12))]) (st2 := [.int (yw (v12 + 1)), .int (yw v6), .ref v0]) (by simp only [yl_lit, yL_lit, yw_add, yw_sub, yw_mul, yw_neg, yl_add, yl_sub, yl_mul, cj_and, cj_or, cj_xor, cj_shl, cj_shr, cj_ushr, cj_div, cj_i2c, cj_i2b, cj_dc, ck_and, ck_or, ck_xor, ck_shl, ck_shr, ck_ushr, ck_i2l, ck_l2i, ck_cmp]) (by simp only [yl_lit, yL_lit, yw_add, yw_sub, yw_mul, yw_neg, yl_add, yl_sub, yl_mul, cj_and, cj_or, cj_xor, cj_shl, cj_shr, cj_ushr, cj_div, cj_i2c, cj_i2b, cj_dc, ck_and, ck_or, ck_xor, ck_shl, ck_shr, ck_ushr, ck_i2l, ck_l2i, ck_cmp]) ?_
  refine xZ.callv (κ := oJ) (av := [.int (yw v6), .int (yw (v12 + 1))]) (rest := []) (st' := fun x1 => [.int (yw x1)]) (k0 := v0) (me := xm13) hP_13 rfl (Or.inl rfl) ⟨rfl, by decide⟩ rfl rfl (Nat.le_of_ble_eq_true rfl) (by decide) hP_91 (Nat.le_of_ble_eq_true rfl) (fun _ => rfl) (k_f_Calendarhall_nextDay O f (d + 5) v0 v6 (v12 + 1) M) (fun x1 M1 => ?_)
  refine xZ.adv (me := xm13) hP_13 2 (pc' := 382) (lv' := [(12, .int (yw x1)), (11, .int (yw (v11 + 1))), (0, .ref v0), (1, .ref v1), (3, .ref v3), (6, .int (yw v6)), (8, .ref v8), (9, .int (yw v9)), (10, .int (yw v10))]) (st' := []) rfl ?_
  exact xZ.sub (xsc (.tail _ (.tail _ (.head _))) (xsc (.tail _ (.tail _ (.tail _ (.head _)))) (xsc (.tail _ (.tail _ (.tail _ (.tail _ (.head _))))) (xsc (.tail _ (.tail _ (.tail _ (.tail _ (.tail _ (.head _)))))) (xsc (.tail _ (.tail _ (.tail _ (.tail _ (.tail _ (.tail _ (.head _))))))) (xsc (.tail _ (.tail _ (.tail _ (.tail _ (.tail _ (.tail _ (.tail _ (.head _)))))))) (xsc (.tail _ (.tail _ (.tail _ (.tail _ (.tail _ (.tail _ (.tail _ (.tail _ (.head _))))))))) (xsc (.tail _ (.head _)) (xsc (.head _) xsn))))))))) (show ([12, 11, 0, 1, 3, 6, 8, 9, 10] : List Nat).Nodup from by decide) (hK382 v0 v1 v3 v6 v8 v9 v10 (v11 + 1) x1 M1)
def f_Law_areDays_566 (O : Nat → Option va_E) (f : Nat) (v0 : Nat) (v1 : Nat) (v3 : Nat) (v6 : Int) (v8 : Nat) (v9 : Int) (v10 : Int) (M : xM) : Option (Int × xM) :=
  if yw v9 = yw 0 then (
    some (1, M)
  ) else
  xcl (f_Law_areMoved O f v0 v1 v6 v8 v9 v10 M) fun x1 M1 =>
  if yw x1 = yw 0 then (
    some (0, M1)
  ) else
  xcl (f_Law_isCut O f v0 v1 v6 v8 v9 v3 M1) fun x2 M2 =>
  if yw x2 = yw 0 then (
    some (0, M2)
  ) else
  some (1, M2)
set_option maxRecDepth 20000 in
theorem k_f_Law_areDays_566 (O : Nat → Option va_E) (f d : Nat) (v0 : Nat) (v1 : Nat) (v3 : Nat) (v6 : Int) (v8 : Nat) (v9 : Int) (v10 : Int) (M : xM) : xZ oJ O (d + 11) 13 566 [(0, .ref v0), (1, .ref v1), (3, .ref v3), (6, .int (yw v6)), (8, .ref v8), (9, .int (yw v9)), (10, .int (yw v10))] [] M (f_Law_areDays_566 O f v0 v1 v3 v6 v8 v9 v10 M) := by
  unfold f_Law_areDays_566
  refine xZ.adv (me := xm13) hP_13 1 (pc' := 568) (lv' := [(0, .ref v0), (1, .ref v1), (3, .ref v3), (6, .int (yw v6)), (8, .ref v8), (9, .int (yw v9)), (10, .int (yw v10))]) (st' := [.int (yw v9)]) rfl ?_
  refine xZ.jf_eq (me := xm13) hP_13 rfl (fun h1 => ?_) (fun h1 => ?_)
  · skip
    refine xZ.adv (me := xm13) hP_13 2 (pc' := 607) (lv' := [(0, .ref v0), (1, .ref v1), (3, .ref v3), (6, .int (yw v6)), (8, .ref v8), (9, .int (yw v9)), (10, .int (yw v10))]) (st' := [.int (1 : Int32)]) rfl ?_
    refine xZ.eqs (lv2 := [(0, .ref v0), (1, .ref v1), (3, .ref v3), (6, .int (yw v6)), (8, .ref v8), (9, .int (yw v9)), (10, .int (yw v10))]) (st2 := [.int (yw 1)]) rfl (by simp only [yl_lit, yL_lit, yw_add, yw_sub, yw_mul, yw_neg, yl_add, yl_sub, yl_mul, cj_and, cj_or, cj_xor, cj_shl, cj_shr, cj_ushr, cj_div, cj_i2c, cj_i2b, cj_dc, ck_and, ck_or, ck_xor, ck_shl, ck_shr, ck_ushr, ck_i2l, ck_l2i, ck_cmp]) ?_
    exact xZ.jrete (me := xm13) hP_13 rfl rfl rfl
  · skip
    refine xZ.adv (me := xm13) hP_13 6 (pc' := 581) (lv' := [(0, .ref v0), (1, .ref v1), (3, .ref v3), (6, .int (yw v6)), (8, .ref v8), (9, .int (yw v9)), (10, .int (yw v10))]) (st' := [.int (yw v10), .int (yw v9), .ref v8, .int (yw v6), .ref v1, .ref v0]) rfl ?_
    refine xZ.calls (κ := oJ) (av := [.ref v0, .ref v1, .int (yw v6), .ref v8, .int (yw v9), .int (yw v10)]) (rest := []) (st' := fun x1 => [.int (yw x1)]) (me := xm13) hP_13 rfl rfl rfl (Nat.le_of_ble_eq_true rfl) (by decide) hP_97 (Nat.le_of_ble_eq_true rfl) (fun _ => rfl) (k_f_Law_areMoved O f (d + 3) v0 v1 v6 v8 v9 v10 M) (fun x1 M1 => ?_)
    refine xZ.jf_eq (me := xm13) hP_13 rfl (fun h2 => ?_) (fun h2 => ?_)
    · skip
      refine xZ.adv (me := xm13) hP_13 1 (pc' := 607) (lv' := [(0, .ref v0), (1, .ref v1), (3, .ref v3), (6, .int (yw v6)), (8, .ref v8), (9, .int (yw v9)), (10, .int (yw v10))]) (st' := [.int (0 : Int32)]) rfl ?_
      refine xZ.eqs (lv2 := [(0, .ref v0), (1, .ref v1), (3, .ref v3), (6, .int (yw v6)), (8, .ref v8), (9, .int (yw v9)), (10, .int (yw v10))]) (st2 := [.int (yw 0)]) rfl (by simp only [yl_lit, yL_lit, yw_add, yw_sub, yw_mul, yw_neg, yl_add, yl_sub, yl_mul, cj_and, cj_or, cj_xor, cj_shl, cj_shr, cj_ushr, cj_div, cj_i2c, cj_i2b, cj_dc, ck_and, ck_or, ck_xor, ck_shl, ck_shr, ck_ushr, ck_i2l, ck_l2i, ck_cmp]) ?_
      exact xZ.jrete (me := xm13) hP_13 rfl rfl rfl
    · skip
      refine xZ.adv (me := xm13) hP_13 6 (pc' := 596) (lv' := [(0, .ref v0), (1, .ref v1), (3, .ref v3), (6, .int (yw v6)), (8, .ref v8), (9, .int (yw v9)), (10, .int (yw v10))]) (st' := [.ref v3, .int (yw v9), .ref v8, .int (yw v6), .ref v1, .ref v0]) rfl ?_
      refine xZ.calls (κ := oJ) (av := [.ref v0, .ref v1, .int (yw v6), .ref v8, .int (yw v9), .ref v3]) (rest := []) (st' := fun x2 => [.int (yw x2)]) (me := xm13) hP_13 rfl rfl rfl (Nat.le_of_ble_eq_true rfl) (by decide) hP_125 (Nat.le_of_ble_eq_true rfl) (fun _ => rfl) (k_f_Law_isCut O f (d + 2) v0 v1 v6 v8 v9 v3 M1) (fun x2 M2 => ?_)
      refine xZ.jf_eq (me := xm13) hP_13 rfl (fun h3 => ?_) (fun h3 => ?_)
      · skip
        refine xZ.adv (me := xm13) hP_13 1 (pc' := 607) (lv' := [(0, .ref v0), (1, .ref v1), (3, .ref v3), (6, .int (yw v6)), (8, .ref v8), (9, .int (yw v9)), (10, .int (yw v10))]) (st' := [.int (0 : Int32)]) rfl ?_
        refine xZ.eqs (lv2 := [(0, .ref v0), (1, .ref v1), (3, .ref v3), (6, .int (yw v6)), (8, .ref v8), (9, .int (yw v9)), (10, .int (yw v10))]) (st2 := [.int (yw 0)]) rfl (by simp only [yl_lit, yL_lit, yw_add, yw_sub, yw_mul, yw_neg, yl_add, yl_sub, yl_mul, cj_and, cj_or, cj_xor, cj_shl, cj_shr, cj_ushr, cj_div, cj_i2c, cj_i2b, cj_dc, ck_and, ck_or, ck_xor, ck_shl, ck_shr, ck_ushr, ck_i2l, ck_l2i, ck_cmp]) ?_
        exact xZ.jrete (me := xm13) hP_13 rfl rfl rfl
      · skip
        refine xZ.adv (me := xm13) hP_13 2 (pc' := 607) (lv' := [(0, .ref v0), (1, .ref v1), (3, .ref v3), (6, .int (yw v6)), (8, .ref v8), (9, .int (yw v9)), (10, .int (yw v10))]) (st' := [.int (1 : Int32)]) rfl ?_
        refine xZ.eqs (lv2 := [(0, .ref v0), (1, .ref v1), (3, .ref v3), (6, .int (yw v6)), (8, .ref v8), (9, .int (yw v9)), (10, .int (yw v10))]) (st2 := [.int (yw 1)]) rfl (by simp only [yl_lit, yL_lit, yw_add, yw_sub, yw_mul, yw_neg, yl_add, yl_sub, yl_mul, cj_and, cj_or, cj_xor, cj_shl, cj_shr, cj_ushr, cj_div, cj_i2c, cj_i2b, cj_dc, ck_and, ck_or, ck_xor, ck_shl, ck_shr, ck_ushr, ck_i2l, ck_l2i, ck_cmp]) ?_
        exact xZ.jrete (me := xm13) hP_13 rfl rfl rfl
def f_Law_areDays_480 (O : Nat → Option va_E) (f : Nat) : Nat → Nat → Nat → Nat → Int → Nat → Int → Int → Int → xM → Option (Int × xM)
  | 0, _, _, _, _, _, _, _, _, _ => none
  | n + 1, v0, v1, v3, v6, v8, v9, v10, v12, M =>
    if yw 4 ≤ yw v12 then (
      f_Law_areDays_566 O f v0 v1 v3 v6 v8 v9 v10 M
    ) else
    if yw v9 ≤ yw 0 then (
      f_Law_areDays_566 O f v0 v1 v3 v6 v8 v9 v10 M
    ) else
    (isO O M v1 15).bind fun _ =>
    xcl (f_LDraw_n O f v1 v9 M) fun x1 M1 =>
    (isO O M1 v1 15).bind fun _ =>
    xcl (f_LDraw_n O f v1 (v9 - x1) M1) fun x2 M2 =>
    (aJ O M2 v8 x1).bind fun x3 =>
    (aJ O M2 v8 (x1 + x2)).bind fun x4 =>
    (isO O M2 v0 12).bind fun _ =>
    xcl (f_Calendarhall_countDays O f v0 v6 x3 x4 M2) fun x5 M3 =>
    if yw x5 = yw (((x1 + x2) - x1) + 1) then (
      (aJ O M3 v8 x1).bind fun x6 =>
      (isO O M3 v0 12).bind fun _ =>
      xcl (f_Calendarhall_nextDay O f v0 v6 x6 M3) fun x7 M4 =>
      (aJ O M4 v8 x1).bind fun x8 =>
      if yw x7 = yw x8 then (
        f_Law_areDays_480 O f n v0 v1 v3 v6 v8 v9 v10 (v12 + 1) M4
      ) else
      some (0, M4)
    ) else
    some (0, M3)
set_option maxRecDepth 20000 in
theorem k_f_Law_areDays_480 (O : Nat → Option va_E) (f d : Nat) : ∀ (n : Nat) (v0 : Nat) (v1 : Nat) (v3 : Nat) (v6 : Int) (v8 : Nat) (v9 : Int) (v10 : Int) (v12 : Int) (M : xM), xZ oJ O (d + 11) 13 480 [(0, .ref v0), (1, .ref v1), (3, .ref v3), (6, .int (yw v6)), (8, .ref v8), (9, .int (yw v9)), (10, .int (yw v10)), (12, .int (yw v12))] [] M (f_Law_areDays_480 O f n v0 v1 v3 v6 v8 v9 v10 v12 M) := by
  intro n
  induction n with
  | zero =>
    intro v0 v1 v3 v6 v8 v9 v10 v12 M
    exact xZ.no
  | succ n ih =>
    intro v0 v1 v3 v6 v8 v9 v10 v12 M
    unfold f_Law_areDays_480
    refine xZ.adv (me := xm13) hP_13 2 (pc' := 483) (lv' := [(0, .ref v0), (1, .ref v1), (3, .ref v3), (6, .int (yw v6)), (8, .ref v8), (9, .int (yw v9)), (10, .int (yw v10)), (12, .int (yw v12))]) (st' := [.int (4 : Int32), .int (yw v12)]) rfl ?_
    refine xZ.eqs (lv2 := [(0, .ref v0), (1, .ref v1), (3, .ref v3), (6, .int (yw v6)), (8, .ref v8), (9, .int (yw v9)), (10, .int (yw v10)), (12, .int (yw v12))]) (st2 := [.int (yw 4), .int (yw v12)]) rfl (by simp only [yl_lit, yL_lit, yw_add, yw_sub, yw_mul, yw_neg, yl_add, yl_sub, yl_mul, cj_and, cj_or, cj_xor, cj_shl, cj_shr, cj_ushr, cj_div, cj_i2c, cj_i2b, cj_dc, ck_and, ck_or, ck_xor, ck_shl, ck_shr, ck_ushr, ck_i2l, ck_l2i, ck_cmp]) ?_
    refine xZ.jc_ge (me := xm13) hP_13 rfl (fun h1 => ?_) (fun h1 => ?_)
    · skip
      exact xZ.sub (xsc (.head _) (xsc (.tail _ (.head _)) (xsc (.tail _ (.tail _ (.head _))) (xsc (.tail _ (.tail _ (.tail _ (.head _)))) (xsc (.tail _ (.tail _ (.tail _ (.tail _ (.head _))))) (xsc (.tail _ (.tail _ (.tail _ (.tail _ (.tail _ (.head _)))))) (xsc (.tail _ (.tail _ (.tail _ (.tail _ (.tail _ (.tail _ (.head _))))))) xsn))))))) (show ([0, 1, 3, 6, 8, 9, 10, 12] : List Nat).Nodup from by decide) (k_f_Law_areDays_566 O f d v0 v1 v3 v6 v8 v9 v10 M)
    · skip
      refine xZ.adv (me := xm13) hP_13 1 (pc' := 488) (lv' := [(0, .ref v0), (1, .ref v1), (3, .ref v3), (6, .int (yw v6)), (8, .ref v8), (9, .int (yw v9)), (10, .int (yw v10)), (12, .int (yw v12))]) (st' := [.int (yw v9)]) rfl ?_
      refine xZ.jf_le (me := xm13) hP_13 rfl (fun h2 => ?_) (fun h2 => ?_)
      · skip
        exact xZ.sub (xsc (.head _) (xsc (.tail _ (.head _)) (xsc (.tail _ (.tail _ (.head _))) (xsc (.tail _ (.tail _ (.tail _ (.head _)))) (xsc (.tail _ (.tail _ (.tail _ (.tail _ (.head _))))) (xsc (.tail _ (.tail _ (.tail _ (.tail _ (.tail _ (.head _)))))) (xsc (.tail _ (.tail _ (.tail _ (.tail _ (.tail _ (.tail _ (.head _))))))) xsn))))))) (show ([0, 1, 3, 6, 8, 9, 10, 12] : List Nat).Nodup from by decide) (k_f_Law_areDays_566 O f d v0 v1 v3 v6 v8 v9 v10 M)
      · skip
        refine xZ.adv (me := xm13) hP_13 2 (pc' := 494) (lv' := [(0, .ref v0), (1, .ref v1), (3, .ref v3), (6, .int (yw v6)), (8, .ref v8), (9, .int (yw v9)), (10, .int (yw v10)), (12, .int (yw v12))]) (st' := [.int (yw v9), .ref v1]) rfl ?_
        refine xZ.callv (κ := oJ) (av := [.int (yw v9)]) (rest := []) (st' := fun x1 => [.int (yw x1)]) (k0 := v1) (me := xm13) hP_13 rfl (Or.inl rfl) ⟨rfl, by decide⟩ rfl rfl (Nat.le_of_ble_eq_true rfl) (by decide) hP_12 (Nat.le_of_ble_eq_true rfl) (fun _ => rfl) (k_f_LDraw_n O f (d + 10) v1 v9 M) (fun x1 M1 => ?_)
        refine xZ.adv (me := xm13) hP_13 6 (pc' := 507) (lv' := [(13, .int (yw x1)), (0, .ref v0), (1, .ref v1), (3, .ref v3), (6, .int (yw v6)), (8, .ref v8), (9, .int (yw v9)), (10, .int (yw v10)), (12, .int (yw v12))]) (st' := [.int ((yw v9) - (yw x1)), .ref v1, .int (yw x1)]) rfl ?_
        refine xZ.eqs (lv2 := [(13, .int (yw x1)), (0, .ref v0), (1, .ref v1), (3, .ref v3), (6, .int (yw v6)), (8, .ref v8), (9, .int (yw v9)), (10, .int (yw v10)), (12, .int (yw v12))]) (st2 := [.int (yw (v9 - x1)), .ref v1, .int (yw x1)]) rfl (by simp only [yl_lit, yL_lit, yw_add, yw_sub, yw_mul, yw_neg, yl_add, yl_sub, yl_mul, cj_and, cj_or, cj_xor, cj_shl, cj_shr, cj_ushr, cj_div, cj_i2c, cj_i2b, cj_dc, ck_and, ck_or, ck_xor, ck_shl, ck_shr, ck_ushr, ck_i2l, ck_l2i, ck_cmp]) ?_
        refine xZ.callv (κ := oJ) (av := [.int (yw (v9 - x1))]) (rest := [.int (yw x1)]) (st' := fun x2 => [.int (yw x2), .int (yw x1)]) (k0 := v1) (me := xm13) hP_13 rfl (Or.inl rfl) ⟨rfl, by decide⟩ rfl rfl (Nat.le_of_ble_eq_true rfl) (by decide) hP_12 (Nat.le_of_ble_eq_true rfl) (fun _ => rfl) (k_f_LDraw_n O f (d + 10) v1 (v9 - x1) M1) (fun x2 M2 => ?_)
        refine xZ.adv (me := xm13) hP_13 6 (pc' := 520) (lv' := [(14, .int ((yw x1) + (yw x2))), (13, .int (yw x1)), (0, .ref v0), (1, .ref v1), (3, .ref v3), (6, .int (yw v6)), (8, .ref v8), (9, .int (yw v9)), (10, .int (yw v10)), (12, .int (yw v12))]) (st' := [.int (yw x1), .ref v8, .int (yw v6), .ref v0]) rfl ?_
        refine xZ.eqs (lv2 := [(14, .int (yw (x1 + x2))), (13, .int (yw x1)), (0, .ref v0), (1, .ref v1), (3, .ref v3), (6, .int (yw v6)), (8, .ref v8), (9, .int (yw v9)), (10, .int (yw v10)), (12, .int (yw v12))]) (st2 := [.int (yw x1), .ref v8, .int (yw v6), .ref v0]) (by simp only [yl_lit, yL_lit, yw_add, yw_sub, yw_mul, yw_neg, yl_add, yl_sub, yl_mul, cj_and, cj_or, cj_xor, cj_shl, cj_shr, cj_ushr, cj_div, cj_i2c, cj_i2b, cj_dc, ck_and, ck_or, ck_xor, ck_shl, ck_shr, ck_ushr, ck_i2l, ck_l2i, ck_cmp]) rfl ?_
        refine xZ.k_aJ (me := xm13) hP_13 rfl (fun x3 => ?_)
        refine xZ.adv (me := xm13) hP_13 2 (pc' := 525) (lv' := [(14, .int (yw (x1 + x2))), (13, .int (yw x1)), (0, .ref v0), (1, .ref v1), (3, .ref v3), (6, .int (yw v6)), (8, .ref v8), (9, .int (yw v9)), (10, .int (yw v10)), (12, .int (yw v12))]) (st' := [.int (yw (x1 + x2)), .ref v8, .int (yw x3), .int (yw v6), .ref v0]) rfl ?_
        refine xZ.k_aJ (me := xm13) hP_13 rfl (fun x4 => ?_)
        refine xZ.callv (κ := oJ) (av := [.int (yw v6), .int (yw x3), .int (yw x4)]) (rest := []) (st' := fun x5 => [.int (yw x5)]) (k0 := v0) (me := xm13) hP_13 rfl (Or.inl rfl) ⟨rfl, by decide⟩ rfl rfl (Nat.le_of_ble_eq_true rfl) (by decide) hP_93 (Nat.le_of_ble_eq_true rfl) (fun _ => rfl) (k_f_Calendarhall_countDays O f (d + 5) v0 v6 x3 x4 M2) (fun x5 M3 => ?_)
        refine xZ.adv (me := xm13) hP_13 5 (pc' := 536) (lv' := [(14, .int (yw (x1 + x2))), (13, .int (yw x1)), (0, .ref v0), (1, .ref v1), (3, .ref v3), (6, .int (yw v6)), (8, .ref v8), (9, .int (yw v9)), (10, .int (yw v10)), (12, .int (yw v12))]) (st' := [.int (((yw (x1 + x2)) - (yw x1)) + (1 : Int32)), .int (yw x5)]) rfl ?_
        refine xZ.eqs (lv2 := [(14, .int (yw (x1 + x2))), (13, .int (yw x1)), (0, .ref v0), (1, .ref v1), (3, .ref v3), (6, .int (yw v6)), (8, .ref v8), (9, .int (yw v9)), (10, .int (yw v10)), (12, .int (yw v12))]) (st2 := [.int (yw (((x1 + x2) - x1) + 1)), .int (yw x5)]) rfl (by simp only [yl_lit, yL_lit, yw_add, yw_sub, yw_mul, yw_neg, yl_add, yl_sub, yl_mul, cj_and, cj_or, cj_xor, cj_shl, cj_shr, cj_ushr, cj_div, cj_i2c, cj_i2b, cj_dc, ck_and, ck_or, ck_xor, ck_shl, ck_shr, ck_ushr, ck_i2l, ck_l2i, ck_cmp]) ?_
        refine xZ.jc_ne (me := xm13) hP_13 rfl (fun h3 => ?_) (fun h3 => ?_)
        · skip
          refine xZ.adv (me := xm13) hP_13 4 (pc' := 546) (lv' := [(14, .int (yw (x1 + x2))), (13, .int (yw x1)), (0, .ref v0), (1, .ref v1), (3, .ref v3), (6, .int (yw v6)), (8, .ref v8), (9, .int (yw v9)), (10, .int (yw v10)), (12, .int (yw v12))]) (st' := [.int (yw x1), .ref v8, .int (yw v6), .ref v0]) rfl ?_
          refine xZ.k_aJ (me := xm13) hP_13 rfl (fun x6 => ?_)
          refine xZ.callv (κ := oJ) (av := [.int (yw v6), .int (yw x6)]) (rest := []) (st' := fun x7 => [.int (yw x7)]) (k0 := v0) (me := xm13) hP_13 rfl (Or.inl rfl) ⟨rfl, by decide⟩ rfl rfl (Nat.le_of_ble_eq_true rfl) (by decide) hP_91 (Nat.le_of_ble_eq_true rfl) (fun _ => rfl) (k_f_Calendarhall_nextDay O f (d + 5) v0 v6 x6 M3) (fun x7 M4 => ?_)
          refine xZ.adv (me := xm13) hP_13 2 (pc' := 554) (lv' := [(14, .int (yw (x1 + x2))), (13, .int (yw x1)), (0, .ref v0), (1, .ref v1), (3, .ref v3), (6, .int (yw v6)), (8, .ref v8), (9, .int (yw v9)), (10, .int (yw v10)), (12, .int (yw v12))]) (st' := [.int (yw x1), .ref v8, .int (yw x7)]) rfl ?_
          refine xZ.k_aJ (me := xm13) hP_13 rfl (fun x8 => ?_)
          refine xZ.jc_eq (me := xm13) hP_13 rfl (fun h4 => ?_) (fun h4 => ?_)
          · skip
            refine xZ.adv (me := xm13) hP_13 2 (pc' := 480) (lv' := [(12, .int ((yw v12) + (1 : Int32))), (14, .int (yw (x1 + x2))), (13, .int (yw x1)), (0, .ref v0), (1, .ref v1), (3, .ref v3), (6, .int (yw v6)), (8, .ref v8), (9, .int (yw v9)), (10, .int (yw v10))]) (st' := []) rfl ?_
            refine xZ.eqs (lv2 := [(12, .int (yw (v12 + 1))), (14, .int (yw (x1 + x2))), (13, .int (yw x1)), (0, .ref v0), (1, .ref v1), (3, .ref v3), (6, .int (yw v6)), (8, .ref v8), (9, .int (yw v9)), (10, .int (yw v10))]) (st2 := []) (by simp only [yl_lit, yL_lit, yw_add, yw_sub, yw_mul, yw_neg, yl_add, yl_sub, yl_mul, cj_and, cj_or, cj_xor, cj_shl, cj_shr, cj_ushr, cj_div, cj_i2c, cj_i2b, cj_dc, ck_and, ck_or, ck_xor, ck_shl, ck_shr, ck_ushr, ck_i2l, ck_l2i, ck_cmp]) rfl ?_
            exact xZ.sub (xsc (.tail _ (.tail _ (.tail _ (.head _)))) (xsc (.tail _ (.tail _ (.tail _ (.tail _ (.head _))))) (xsc (.tail _ (.tail _ (.tail _ (.tail _ (.tail _ (.head _)))))) (xsc (.tail _ (.tail _ (.tail _ (.tail _ (.tail _ (.tail _ (.head _))))))) (xsc (.tail _ (.tail _ (.tail _ (.tail _ (.tail _ (.tail _ (.tail _ (.head _)))))))) (xsc (.tail _ (.tail _ (.tail _ (.tail _ (.tail _ (.tail _ (.tail _ (.tail _ (.head _))))))))) (xsc (.tail _ (.tail _ (.tail _ (.tail _ (.tail _ (.tail _ (.tail _ (.tail _ (.tail _ (.head _)))))))))) (xsc (.head _) xsn)))))))) (show ([12, 14, 13, 0, 1, 3, 6, 8, 9, 10] : List Nat).Nodup from by decide) (ih v0 v1 v3 v6 v8 v9 v10 (v12 + 1) M4)
          · skip
            refine xZ.adv (me := xm13) hP_13 1 (pc' := 559) (lv' := [(14, .int (yw (x1 + x2))), (13, .int (yw x1)), (0, .ref v0), (1, .ref v1), (3, .ref v3), (6, .int (yw v6)), (8, .ref v8), (9, .int (yw v9)), (10, .int (yw v10)), (12, .int (yw v12))]) (st' := [.int (0 : Int32)]) rfl ?_
            refine xZ.eqs (lv2 := [(14, .int (yw (x1 + x2))), (13, .int (yw x1)), (0, .ref v0), (1, .ref v1), (3, .ref v3), (6, .int (yw v6)), (8, .ref v8), (9, .int (yw v9)), (10, .int (yw v10)), (12, .int (yw v12))]) (st2 := [.int (yw 0)]) rfl (by simp only [yl_lit, yL_lit, yw_add, yw_sub, yw_mul, yw_neg, yl_add, yl_sub, yl_mul, cj_and, cj_or, cj_xor, cj_shl, cj_shr, cj_ushr, cj_div, cj_i2c, cj_i2b, cj_dc, ck_and, ck_or, ck_xor, ck_shl, ck_shr, ck_ushr, ck_i2l, ck_l2i, ck_cmp]) ?_
            exact xZ.jrete (me := xm13) hP_13 rfl rfl rfl
        · skip
          refine xZ.adv (me := xm13) hP_13 1 (pc' := 559) (lv' := [(14, .int (yw (x1 + x2))), (13, .int (yw x1)), (0, .ref v0), (1, .ref v1), (3, .ref v3), (6, .int (yw v6)), (8, .ref v8), (9, .int (yw v9)), (10, .int (yw v10)), (12, .int (yw v12))]) (st' := [.int (0 : Int32)]) rfl ?_
          refine xZ.eqs (lv2 := [(14, .int (yw (x1 + x2))), (13, .int (yw x1)), (0, .ref v0), (1, .ref v1), (3, .ref v3), (6, .int (yw v6)), (8, .ref v8), (9, .int (yw v9)), (10, .int (yw v10)), (12, .int (yw v12))]) (st2 := [.int (yw 0)]) rfl (by simp only [yl_lit, yL_lit, yw_add, yw_sub, yw_mul, yw_neg, yl_add, yl_sub, yl_mul, cj_and, cj_or, cj_xor, cj_shl, cj_shr, cj_ushr, cj_div, cj_i2c, cj_i2b, cj_dc, ck_and, ck_or, ck_xor, ck_shl, ck_shr, ck_ushr, ck_i2l, ck_l2i, ck_cmp]) ?_
          exact xZ.jrete (me := xm13) hP_13 rfl rfl rfl
def f_Law_areDays_453 (O : Nat → Option va_E) (f : Nat) (v0 : Nat) (v1 : Nat) (v3 : Nat) (v6 : Int) (v8 : Nat) (v9 : Int) (v10 : Int) (v11 : Int) (M : xM) : Option (Int × xM) :=
  if yw v11 = yw v9 then (
    (isO O M v0 12).bind fun _ =>
    xcl (f_Calendarhall_countDays O f v0 v6 10 v10 M) fun x1 M1 =>
    if yw x1 = yw v9 then (
      f_Law_areDays_480 O f f v0 v1 v3 v6 v8 v9 v10 0 M1
    ) else
    some (0, M1)
  ) else
  some (0, M)
set_option maxRecDepth 20000 in
theorem k_f_Law_areDays_453 (O : Nat → Option va_E) (f d : Nat) (v0 : Nat) (v1 : Nat) (v3 : Nat) (v6 : Int) (v8 : Nat) (v9 : Int) (v10 : Int) (v11 : Int) (M : xM) : xZ oJ O (d + 11) 13 453 [(0, .ref v0), (1, .ref v1), (3, .ref v3), (6, .int (yw v6)), (8, .ref v8), (9, .int (yw v9)), (10, .int (yw v10)), (11, .int (yw v11))] [] M (f_Law_areDays_453 O f v0 v1 v3 v6 v8 v9 v10 v11 M) := by
  unfold f_Law_areDays_453
  refine xZ.adv (me := xm13) hP_13 2 (pc' := 457) (lv' := [(0, .ref v0), (1, .ref v1), (3, .ref v3), (6, .int (yw v6)), (8, .ref v8), (9, .int (yw v9)), (10, .int (yw v10)), (11, .int (yw v11))]) (st' := [.int (yw v9), .int (yw v11)]) rfl ?_
  refine xZ.jc_ne (me := xm13) hP_13 rfl (fun h1 => ?_) (fun h1 => ?_)
  · skip
    refine xZ.adv (me := xm13) hP_13 4 (pc' := 467) (lv' := [(0, .ref v0), (1, .ref v1), (3, .ref v3), (6, .int (yw v6)), (8, .ref v8), (9, .int (yw v9)), (10, .int (yw v10)), (11, .int (yw v11))]) (st' := [.int (yw v10), .int (10 : Int32), .int (yw v6), .ref v0]) rfl ?_
    refine xZ.eqs (lv2 := [(0, .ref v0), (1, .ref v1), (3, .ref v3), (6, .int (yw v6)), (8, .ref v8), (9, .int (yw v9)), (10, .int (yw v10)), (11, .int (yw v11))]) (st2 := [.int (yw v10), .int (yw 10), .int (yw v6), .ref v0]) rfl (by simp only [yl_lit, yL_lit, yw_add, yw_sub, yw_mul, yw_neg, yl_add, yl_sub, yl_mul, cj_and, cj_or, cj_xor, cj_shl, cj_shr, cj_ushr, cj_div, cj_i2c, cj_i2b, cj_dc, ck_and, ck_or, ck_xor, ck_shl, ck_shr, ck_ushr, ck_i2l, ck_l2i, ck_cmp]) ?_
    refine xZ.callv (κ := oJ) (av := [.int (yw v6), .int (yw 10), .int (yw v10)]) (rest := []) (st' := fun x1 => [.int (yw x1)]) (k0 := v0) (me := xm13) hP_13 rfl (Or.inl rfl) ⟨rfl, by decide⟩ rfl rfl (Nat.le_of_ble_eq_true rfl) (by decide) hP_93 (Nat.le_of_ble_eq_true rfl) (fun _ => rfl) (k_f_Calendarhall_countDays O f (d + 5) v0 v6 10 v10 M) (fun x1 M1 => ?_)
    refine xZ.adv (me := xm13) hP_13 1 (pc' := 472) (lv' := [(0, .ref v0), (1, .ref v1), (3, .ref v3), (6, .int (yw v6)), (8, .ref v8), (9, .int (yw v9)), (10, .int (yw v10)), (11, .int (yw v11))]) (st' := [.int (yw v9), .int (yw x1)]) rfl ?_
    refine xZ.jc_eq (me := xm13) hP_13 rfl (fun h2 => ?_) (fun h2 => ?_)
    · skip
      refine xZ.adv (me := xm13) hP_13 2 (pc' := 480) (lv' := [(12, .int (0 : Int32)), (0, .ref v0), (1, .ref v1), (3, .ref v3), (6, .int (yw v6)), (8, .ref v8), (9, .int (yw v9)), (10, .int (yw v10)), (11, .int (yw v11))]) (st' := []) rfl ?_
      refine xZ.eqs (lv2 := [(12, .int (yw 0)), (0, .ref v0), (1, .ref v1), (3, .ref v3), (6, .int (yw v6)), (8, .ref v8), (9, .int (yw v9)), (10, .int (yw v10)), (11, .int (yw v11))]) (st2 := []) (by simp only [yl_lit, yL_lit, yw_add, yw_sub, yw_mul, yw_neg, yl_add, yl_sub, yl_mul, cj_and, cj_or, cj_xor, cj_shl, cj_shr, cj_ushr, cj_div, cj_i2c, cj_i2b, cj_dc, ck_and, ck_or, ck_xor, ck_shl, ck_shr, ck_ushr, ck_i2l, ck_l2i, ck_cmp]) rfl ?_
      exact xZ.sub (xsc (.tail _ (.head _)) (xsc (.tail _ (.tail _ (.head _))) (xsc (.tail _ (.tail _ (.tail _ (.head _)))) (xsc (.tail _ (.tail _ (.tail _ (.tail _ (.head _))))) (xsc (.tail _ (.tail _ (.tail _ (.tail _ (.tail _ (.head _)))))) (xsc (.tail _ (.tail _ (.tail _ (.tail _ (.tail _ (.tail _ (.head _))))))) (xsc (.tail _ (.tail _ (.tail _ (.tail _ (.tail _ (.tail _ (.tail _ (.head _)))))))) (xsc (.head _) xsn)))))))) (show ([12, 0, 1, 3, 6, 8, 9, 10, 11] : List Nat).Nodup from by decide) (k_f_Law_areDays_480 O f d f v0 v1 v3 v6 v8 v9 v10 0 M1)
    · skip
      refine xZ.adv (me := xm13) hP_13 1 (pc' := 476) (lv' := [(0, .ref v0), (1, .ref v1), (3, .ref v3), (6, .int (yw v6)), (8, .ref v8), (9, .int (yw v9)), (10, .int (yw v10)), (11, .int (yw v11))]) (st' := [.int (0 : Int32)]) rfl ?_
      refine xZ.eqs (lv2 := [(0, .ref v0), (1, .ref v1), (3, .ref v3), (6, .int (yw v6)), (8, .ref v8), (9, .int (yw v9)), (10, .int (yw v10)), (11, .int (yw v11))]) (st2 := [.int (yw 0)]) rfl (by simp only [yl_lit, yL_lit, yw_add, yw_sub, yw_mul, yw_neg, yl_add, yl_sub, yl_mul, cj_and, cj_or, cj_xor, cj_shl, cj_shr, cj_ushr, cj_div, cj_i2c, cj_i2b, cj_dc, ck_and, ck_or, ck_xor, ck_shl, ck_shr, ck_ushr, ck_i2l, ck_l2i, ck_cmp]) ?_
      exact xZ.jrete (me := xm13) hP_13 rfl rfl rfl
  · skip
    refine xZ.adv (me := xm13) hP_13 1 (pc' := 476) (lv' := [(0, .ref v0), (1, .ref v1), (3, .ref v3), (6, .int (yw v6)), (8, .ref v8), (9, .int (yw v9)), (10, .int (yw v10)), (11, .int (yw v11))]) (st' := [.int (0 : Int32)]) rfl ?_
    refine xZ.eqs (lv2 := [(0, .ref v0), (1, .ref v1), (3, .ref v3), (6, .int (yw v6)), (8, .ref v8), (9, .int (yw v9)), (10, .int (yw v10)), (11, .int (yw v11))]) (st2 := [.int (yw 0)]) rfl (by simp only [yl_lit, yL_lit, yw_add, yw_sub, yw_mul, yw_neg, yl_add, yl_sub, yl_mul, cj_and, cj_or, cj_xor, cj_shl, cj_shr, cj_ushr, cj_div, cj_i2c, cj_i2b, cj_dc, ck_and, ck_or, ck_xor, ck_shl, ck_shr, ck_ushr, ck_i2l, ck_l2i, ck_cmp]) ?_
    exact xZ.jrete (me := xm13) hP_13 rfl rfl rfl
def f_Law_areDays_382 (O : Nat → Option va_E) (f : Nat) : Nat → Nat → Nat → Nat → Int → Nat → Int → Int → Int → Int → xM → Option (Int × xM)
  | 0, _, _, _, _, _, _, _, _, _, _ => none
  | n + 1, v0, v1, v3, v6, v8, v9, v10, v11, v12, M =>
    if yw v12 = yw (-1) then (
      f_Law_areDays_453 O f v0 v1 v3 v6 v8 v9 v10 v11 M
    ) else
    if yw v10 < yw v12 then (
      f_Law_areDays_453 O f v0 v1 v3 v6 v8 v9 v10 v11 M
    ) else
    if yw v9 ≤ yw v11 then (
      some (0, M)
    ) else
    (aJ O M v8 v11).bind fun x1 =>
    if yw x1 = yw v12 then (
      if yw 500 ≤ yw v11 then (
        f_Law_areDays_435 O f (f_Law_areDays_382 O f n) v0 v1 v3 v6 v8 v9 v10 v11 v12 M
      ) else
      (isO O M v0 12).bind fun _ =>
      xcl (f_Calendarhall_dayOfSeries O f v0 v6 v11 M) fun x2 M1 =>
      if yw x2 = yw v12 then (
        f_Law_areDays_435 O f (f_Law_areDays_382 O f n) v0 v1 v3 v6 v8 v9 v10 v11 v12 M1
      ) else
      some (0, M1)
    ) else
    some (0, M)
set_option maxRecDepth 20000 in
theorem k_f_Law_areDays_382 (O : Nat → Option va_E) (f d : Nat) : ∀ (n : Nat) (v0 : Nat) (v1 : Nat) (v3 : Nat) (v6 : Int) (v8 : Nat) (v9 : Int) (v10 : Int) (v11 : Int) (v12 : Int) (M : xM), xZ oJ O (d + 11) 13 382 [(0, .ref v0), (1, .ref v1), (3, .ref v3), (6, .int (yw v6)), (8, .ref v8), (9, .int (yw v9)), (10, .int (yw v10)), (11, .int (yw v11)), (12, .int (yw v12))] [] M (f_Law_areDays_382 O f n v0 v1 v3 v6 v8 v9 v10 v11 v12 M) := by
  intro n
  induction n with
  | zero =>
    intro v0 v1 v3 v6 v8 v9 v10 v11 v12 M
    exact xZ.no
  | succ n ih =>
    intro v0 v1 v3 v6 v8 v9 v10 v11 v12 M
    unfold f_Law_areDays_382
    refine xZ.adv (me := xm13) hP_13 2 (pc' := 385) (lv' := [(0, .ref v0), (1, .ref v1), (3, .ref v3), (6, .int (yw v6)), (8, .ref v8), (9, .int (yw v9)), (10, .int (yw v10)), (11, .int (yw v11)), (12, .int (yw v12))]) (st' := [.int (-1 : Int32), .int (yw v12)]) rfl ?_
    refine xZ.eqs (lv2 := [(0, .ref v0), (1, .ref v1), (3, .ref v3), (6, .int (yw v6)), (8, .ref v8), (9, .int (yw v9)), (10, .int (yw v10)), (11, .int (yw v11)), (12, .int (yw v12))]) (st2 := [.int (yw (-1)), .int (yw v12)]) rfl (by simp only [yl_lit, yL_lit, yw_add, yw_sub, yw_mul, yw_neg, yl_add, yl_sub, yl_mul, cj_and, cj_or, cj_xor, cj_shl, cj_shr, cj_ushr, cj_div, cj_i2c, cj_i2b, cj_dc, ck_and, ck_or, ck_xor, ck_shl, ck_shr, ck_ushr, ck_i2l, ck_l2i, ck_cmp]) ?_
    refine xZ.jc_eq (me := xm13) hP_13 rfl (fun h1 => ?_) (fun h1 => ?_)
    · skip
      exact xZ.sub (xsc (.head _) (xsc (.tail _ (.head _)) (xsc (.tail _ (.tail _ (.head _))) (xsc (.tail _ (.tail _ (.tail _ (.head _)))) (xsc (.tail _ (.tail _ (.tail _ (.tail _ (.head _))))) (xsc (.tail _ (.tail _ (.tail _ (.tail _ (.tail _ (.head _)))))) (xsc (.tail _ (.tail _ (.tail _ (.tail _ (.tail _ (.tail _ (.head _))))))) (xsc (.tail _ (.tail _ (.tail _ (.tail _ (.tail _ (.tail _ (.tail _ (.head _)))))))) xsn)))))))) (show ([0, 1, 3, 6, 8, 9, 10, 11, 12] : List Nat).Nodup from by decide) (k_f_Law_areDays_453 O f d v0 v1 v3 v6 v8 v9 v10 v11 M)
    · skip
      refine xZ.adv (me := xm13) hP_13 2 (pc' := 392) (lv' := [(0, .ref v0), (1, .ref v1), (3, .ref v3), (6, .int (yw v6)), (8, .ref v8), (9, .int (yw v9)), (10, .int (yw v10)), (11, .int (yw v11)), (12, .int (yw v12))]) (st' := [.int (yw v10), .int (yw v12)]) rfl ?_
      refine xZ.jc_gt (me := xm13) hP_13 rfl (fun h2 => ?_) (fun h2 => ?_)
      · skip
        exact xZ.sub (xsc (.head _) (xsc (.tail _ (.head _)) (xsc (.tail _ (.tail _ (.head _))) (xsc (.tail _ (.tail _ (.tail _ (.head _)))) (xsc (.tail _ (.tail _ (.tail _ (.tail _ (.head _))))) (xsc (.tail _ (.tail _ (.tail _ (.tail _ (.tail _ (.head _)))))) (xsc (.tail _ (.tail _ (.tail _ (.tail _ (.tail _ (.tail _ (.head _))))))) (xsc (.tail _ (.tail _ (.tail _ (.tail _ (.tail _ (.tail _ (.tail _ (.head _)))))))) xsn)))))))) (show ([0, 1, 3, 6, 8, 9, 10, 11, 12] : List Nat).Nodup from by decide) (k_f_Law_areDays_453 O f d v0 v1 v3 v6 v8 v9 v10 v11 M)
      · skip
        refine xZ.adv (me := xm13) hP_13 2 (pc' := 399) (lv' := [(0, .ref v0), (1, .ref v1), (3, .ref v3), (6, .int (yw v6)), (8, .ref v8), (9, .int (yw v9)), (10, .int (yw v10)), (11, .int (yw v11)), (12, .int (yw v12))]) (st' := [.int (yw v9), .int (yw v11)]) rfl ?_
        refine xZ.jc_ge (me := xm13) hP_13 rfl (fun h3 => ?_) (fun h3 => ?_)
        · skip
          refine xZ.adv (me := xm13) hP_13 1 (pc' := 434) (lv' := [(0, .ref v0), (1, .ref v1), (3, .ref v3), (6, .int (yw v6)), (8, .ref v8), (9, .int (yw v9)), (10, .int (yw v10)), (11, .int (yw v11)), (12, .int (yw v12))]) (st' := [.int (0 : Int32)]) rfl ?_
          refine xZ.eqs (lv2 := [(0, .ref v0), (1, .ref v1), (3, .ref v3), (6, .int (yw v6)), (8, .ref v8), (9, .int (yw v9)), (10, .int (yw v10)), (11, .int (yw v11)), (12, .int (yw v12))]) (st2 := [.int (yw 0)]) rfl (by simp only [yl_lit, yL_lit, yw_add, yw_sub, yw_mul, yw_neg, yl_add, yl_sub, yl_mul, cj_and, cj_or, cj_xor, cj_shl, cj_shr, cj_ushr, cj_div, cj_i2c, cj_i2b, cj_dc, ck_and, ck_or, ck_xor, ck_shl, ck_shr, ck_ushr, ck_i2l, ck_l2i, ck_cmp]) ?_
          exact xZ.jrete (me := xm13) hP_13 rfl rfl rfl
        · skip
          refine xZ.adv (me := xm13) hP_13 2 (pc' := 406) (lv' := [(0, .ref v0), (1, .ref v1), (3, .ref v3), (6, .int (yw v6)), (8, .ref v8), (9, .int (yw v9)), (10, .int (yw v10)), (11, .int (yw v11)), (12, .int (yw v12))]) (st' := [.int (yw v11), .ref v8]) rfl ?_
          refine xZ.k_aJ (me := xm13) hP_13 rfl (fun x1 => ?_)
          refine xZ.adv (me := xm13) hP_13 1 (pc' := 409) (lv' := [(0, .ref v0), (1, .ref v1), (3, .ref v3), (6, .int (yw v6)), (8, .ref v8), (9, .int (yw v9)), (10, .int (yw v10)), (11, .int (yw v11)), (12, .int (yw v12))]) (st' := [.int (yw v12), .int (yw x1)]) rfl ?_
          refine xZ.jc_ne (me := xm13) hP_13 rfl (fun h4 => ?_) (fun h4 => ?_)
          · skip
            refine xZ.adv (me := xm13) hP_13 2 (pc' := 417) (lv' := [(0, .ref v0), (1, .ref v1), (3, .ref v3), (6, .int (yw v6)), (8, .ref v8), (9, .int (yw v9)), (10, .int (yw v10)), (11, .int (yw v11)), (12, .int (yw v12))]) (st' := [.int (500 : Int32), .int (yw v11)]) rfl ?_
            refine xZ.eqs (lv2 := [(0, .ref v0), (1, .ref v1), (3, .ref v3), (6, .int (yw v6)), (8, .ref v8), (9, .int (yw v9)), (10, .int (yw v10)), (11, .int (yw v11)), (12, .int (yw v12))]) (st2 := [.int (yw 500), .int (yw v11)]) rfl (by simp only [yl_lit, yL_lit, yw_add, yw_sub, yw_mul, yw_neg, yl_add, yl_sub, yl_mul, cj_and, cj_or, cj_xor, cj_shl, cj_shr, cj_ushr, cj_div, cj_i2c, cj_i2b, cj_dc, ck_and, ck_or, ck_xor, ck_shl, ck_shr, ck_ushr, ck_i2l, ck_l2i, ck_cmp]) ?_
            refine xZ.jc_ge (me := xm13) hP_13 rfl (fun h5 => ?_) (fun h5 => ?_)
            · skip
              exact (k_f_Law_areDays_435 O f d (f_Law_areDays_382 O f n) ih v0 v1 v3 v6 v8 v9 v10 v11 v12 M)
            · skip
              refine xZ.adv (me := xm13) hP_13 3 (pc' := 425) (lv' := [(0, .ref v0), (1, .ref v1), (3, .ref v3), (6, .int (yw v6)), (8, .ref v8), (9, .int (yw v9)), (10, .int (yw v10)), (11, .int (yw v11)), (12, .int (yw v12))]) (st' := [.int (yw v11), .int (yw v6), .ref v0]) rfl ?_
              refine xZ.callv (κ := oJ) (av := [.int (yw v6), .int (yw v11)]) (rest := []) (st' := fun x2 => [.int (yw x2)]) (k0 := v0) (me := xm13) hP_13 rfl (Or.inl rfl) ⟨rfl, by decide⟩ rfl rfl (Nat.le_of_ble_eq_true rfl) (by decide) hP_92 (Nat.le_of_ble_eq_true rfl) (fun _ => rfl) (k_f_Calendarhall_dayOfSeries O f (d + 4) v0 v6 v11 M) (fun x2 M1 => ?_)
              refine xZ.adv (me := xm13) hP_13 1 (pc' := 430) (lv' := [(0, .ref v0), (1, .ref v1), (3, .ref v3), (6, .int (yw v6)), (8, .ref v8), (9, .int (yw v9)), (10, .int (yw v10)), (11, .int (yw v11)), (12, .int (yw v12))]) (st' := [.int (yw v12), .int (yw x2)]) rfl ?_
              refine xZ.jc_eq (me := xm13) hP_13 rfl (fun h6 => ?_) (fun h6 => ?_)
              · skip
                exact (k_f_Law_areDays_435 O f d (f_Law_areDays_382 O f n) ih v0 v1 v3 v6 v8 v9 v10 v11 v12 M1)
              · skip
                refine xZ.adv (me := xm13) hP_13 1 (pc' := 434) (lv' := [(0, .ref v0), (1, .ref v1), (3, .ref v3), (6, .int (yw v6)), (8, .ref v8), (9, .int (yw v9)), (10, .int (yw v10)), (11, .int (yw v11)), (12, .int (yw v12))]) (st' := [.int (0 : Int32)]) rfl ?_
                refine xZ.eqs (lv2 := [(0, .ref v0), (1, .ref v1), (3, .ref v3), (6, .int (yw v6)), (8, .ref v8), (9, .int (yw v9)), (10, .int (yw v10)), (11, .int (yw v11)), (12, .int (yw v12))]) (st2 := [.int (yw 0)]) rfl (by simp only [yl_lit, yL_lit, yw_add, yw_sub, yw_mul, yw_neg, yl_add, yl_sub, yl_mul, cj_and, cj_or, cj_xor, cj_shl, cj_shr, cj_ushr, cj_div, cj_i2c, cj_i2b, cj_dc, ck_and, ck_or, ck_xor, ck_shl, ck_shr, ck_ushr, ck_i2l, ck_l2i, ck_cmp]) ?_
                exact xZ.jrete (me := xm13) hP_13 rfl rfl rfl
          · skip
            refine xZ.adv (me := xm13) hP_13 1 (pc' := 434) (lv' := [(0, .ref v0), (1, .ref v1), (3, .ref v3), (6, .int (yw v6)), (8, .ref v8), (9, .int (yw v9)), (10, .int (yw v10)), (11, .int (yw v11)), (12, .int (yw v12))]) (st' := [.int (0 : Int32)]) rfl ?_
            refine xZ.eqs (lv2 := [(0, .ref v0), (1, .ref v1), (3, .ref v3), (6, .int (yw v6)), (8, .ref v8), (9, .int (yw v9)), (10, .int (yw v10)), (11, .int (yw v11)), (12, .int (yw v12))]) (st2 := [.int (yw 0)]) rfl (by simp only [yl_lit, yL_lit, yw_add, yw_sub, yw_mul, yw_neg, yl_add, yl_sub, yl_mul, cj_and, cj_or, cj_xor, cj_shl, cj_shr, cj_ushr, cj_div, cj_i2c, cj_i2b, cj_dc, ck_and, ck_or, ck_xor, ck_shl, ck_shr, ck_ushr, ck_i2l, ck_l2i, ck_cmp]) ?_
            exact xZ.jrete (me := xm13) hP_13 rfl rfl rfl
def f_Law_areDays_332 (O : Nat → Option va_E) (f : Nat) (K287 : Nat → Nat → Nat → Nat → Int → Nat → Int → Int → Int → xM → Option (Int × xM)) (v0 : Nat) (v1 : Nat) (v2 : Nat) (v3 : Nat) (v6 : Int) (v8 : Nat) (v9 : Int) (v10 : Int) (v11 : Int) (M : xM) : Option (Int × xM) :=
  f_Law_areDays_333 O f K287 v0 v1 v2 v3 v6 v8 v9 v10 v11 0 M
set_option maxRecDepth 20000 in
theorem k_f_Law_areDays_332 (O : Nat → Option va_E) (f d : Nat) (K287 : Nat → Nat → Nat → Nat → Int → Nat → Int → Int → Int → xM → Option (Int × xM)) (hK287 : ∀ (v0 : Nat) (v1 : Nat) (v2 : Nat) (v3 : Nat) (v6 : Int) (v8 : Nat) (v9 : Int) (v10 : Int) (v11 : Int) M, xZ oJ O (d + 11) 13 287 [(0, .ref v0), (1, .ref v1), (2, .ref v2), (3, .ref v3), (6, .int (yw v6)), (8, .ref v8), (9, .int (yw v9)), (10, .int (yw v10)), (11, .int (yw v11))] [] M (K287 v0 v1 v2 v3 v6 v8 v9 v10 v11 M)) (v0 : Nat) (v1 : Nat) (v2 : Nat) (v3 : Nat) (v6 : Int) (v8 : Nat) (v9 : Int) (v10 : Int) (v11 : Int) (M : xM) : xZ oJ O (d + 11) 13 332 [(0, .ref v0), (1, .ref v1), (2, .ref v2), (3, .ref v3), (6, .int (yw v6)), (8, .ref v8), (9, .int (yw v9)), (10, .int (yw v10)), (11, .int (yw v11))] [] M (f_Law_areDays_332 O f K287 v0 v1 v2 v3 v6 v8 v9 v10 v11 M) := by
  unfold f_Law_areDays_332
  refine xZ.adv (me := xm13) hP_13 1 (pc' := 333) (lv' := [(0, .ref v0), (1, .ref v1), (2, .ref v2), (3, .ref v3), (6, .int (yw v6)), (8, .ref v8), (9, .int (yw v9)), (10, .int (yw v10)), (11, .int (yw v11))]) (st' := [.int (0 : Int32)]) rfl ?_
  refine xZ.eqs (lv2 := [(0, .ref v0), (1, .ref v1), (2, .ref v2), (3, .ref v3), (6, .int (yw v6)), (8, .ref v8), (9, .int (yw v9)), (10, .int (yw v10)), (11, .int (yw v11))]) (st2 := [.int (yw 0)]) rfl (by simp only [yl_lit, yL_lit, yw_add, yw_sub, yw_mul, yw_neg, yl_add, yl_sub, yl_mul, cj_and, cj_or, cj_xor, cj_shl, cj_shr, cj_ushr, cj_div, cj_i2c, cj_i2b, cj_dc, ck_and, ck_or, ck_xor, ck_shl, ck_shr, ck_ushr, ck_i2l, ck_l2i, ck_cmp]) ?_
  exact (k_f_Law_areDays_333 O f d K287 hK287 v0 v1 v2 v3 v6 v8 v9 v10 v11 0 M)
def f_Law_areDays_311 (O : Nat → Option va_E) (f : Nat) (K287 : Nat → Nat → Nat → Nat → Int → Nat → Int → Int → Int → xM → Option (Int × xM)) (v0 : Nat) (v1 : Nat) (v2 : Nat) (v3 : Nat) (v6 : Int) (v8 : Nat) (v9 : Int) (v10 : Int) (v11 : Int) (M : xM) : Option (Int × xM) :=
  (gJ O M v3 16 5).bind fun x1 =>
  if yw x1 = yw 2 then (
    (gJ O M v3 16 6).bind fun x2 =>
    if yw v11 ≤ yw x2 then (
      f_Law_areDays_332 O f K287 v0 v1 v2 v3 v6 v8 v9 v10 v11 M
    ) else
    f_Law_areDays_328 O f K287 v0 v1 v2 v3 v6 v8 v9 v10 v11 M
  ) else
  f_Law_areDays_332 O f K287 v0 v1 v2 v3 v6 v8 v9 v10 v11 M
set_option maxRecDepth 20000 in
theorem k_f_Law_areDays_311 (O : Nat → Option va_E) (f d : Nat) (K287 : Nat → Nat → Nat → Nat → Int → Nat → Int → Int → Int → xM → Option (Int × xM)) (hK287 : ∀ (v0 : Nat) (v1 : Nat) (v2 : Nat) (v3 : Nat) (v6 : Int) (v8 : Nat) (v9 : Int) (v10 : Int) (v11 : Int) M, xZ oJ O (d + 11) 13 287 [(0, .ref v0), (1, .ref v1), (2, .ref v2), (3, .ref v3), (6, .int (yw v6)), (8, .ref v8), (9, .int (yw v9)), (10, .int (yw v10)), (11, .int (yw v11))] [] M (K287 v0 v1 v2 v3 v6 v8 v9 v10 v11 M)) (v0 : Nat) (v1 : Nat) (v2 : Nat) (v3 : Nat) (v6 : Int) (v8 : Nat) (v9 : Int) (v10 : Int) (v11 : Int) (M : xM) : xZ oJ O (d + 11) 13 311 [(0, .ref v0), (1, .ref v1), (2, .ref v2), (3, .ref v3), (6, .int (yw v6)), (8, .ref v8), (9, .int (yw v9)), (10, .int (yw v10)), (11, .int (yw v11))] [] M (f_Law_areDays_311 O f K287 v0 v1 v2 v3 v6 v8 v9 v10 v11 M) := by
  unfold f_Law_areDays_311
  refine xZ.adv (me := xm13) hP_13 1 (pc' := 312) (lv' := [(0, .ref v0), (1, .ref v1), (2, .ref v2), (3, .ref v3), (6, .int (yw v6)), (8, .ref v8), (9, .int (yw v9)), (10, .int (yw v10)), (11, .int (yw v11))]) (st' := [.ref v3]) rfl ?_
  refine xZ.k_gJ (me := xm13) hP_13 rfl (fun x1 => ?_)
  refine xZ.adv (me := xm13) hP_13 1 (pc' := 316) (lv' := [(0, .ref v0), (1, .ref v1), (2, .ref v2), (3, .ref v3), (6, .int (yw v6)), (8, .ref v8), (9, .int (yw v9)), (10, .int (yw v10)), (11, .int (yw v11))]) (st' := [.int (2 : Int32), .int (yw x1)]) rfl ?_
  refine xZ.eqs (lv2 := [(0, .ref v0), (1, .ref v1), (2, .ref v2), (3, .ref v3), (6, .int (yw v6)), (8, .ref v8), (9, .int (yw v9)), (10, .int (yw v10)), (11, .int (yw v11))]) (st2 := [.int (yw 2), .int (yw x1)]) rfl (by simp only [yl_lit, yL_lit, yw_add, yw_sub, yw_mul, yw_neg, yl_add, yl_sub, yl_mul, cj_and, cj_or, cj_xor, cj_shl, cj_shr, cj_ushr, cj_div, cj_i2c, cj_i2b, cj_dc, ck_and, ck_or, ck_xor, ck_shl, ck_shr, ck_ushr, ck_i2l, ck_l2i, ck_cmp]) ?_
  refine xZ.jc_ne (me := xm13) hP_13 rfl (fun h1 => ?_) (fun h1 => ?_)
  · skip
    refine xZ.adv (me := xm13) hP_13 2 (pc' := 322) (lv' := [(0, .ref v0), (1, .ref v1), (2, .ref v2), (3, .ref v3), (6, .int (yw v6)), (8, .ref v8), (9, .int (yw v9)), (10, .int (yw v10)), (11, .int (yw v11))]) (st' := [.ref v3, .int (yw v11)]) rfl ?_
    refine xZ.k_gJ (me := xm13) hP_13 rfl (fun x2 => ?_)
    refine xZ.jc_le (me := xm13) hP_13 rfl (fun h2 => ?_) (fun h2 => ?_)
    · skip
      exact (k_f_Law_areDays_332 O f d K287 hK287 v0 v1 v2 v3 v6 v8 v9 v10 v11 M)
    · skip
      exact (k_f_Law_areDays_328 O f d K287 hK287 v0 v1 v2 v3 v6 v8 v9 v10 v11 M)
  · skip
    exact (k_f_Law_areDays_332 O f d K287 hK287 v0 v1 v2 v3 v6 v8 v9 v10 v11 M)
def f_Law_areDays_287 (O : Nat → Option va_E) (f : Nat) : Nat → Nat → Nat → Nat → Nat → Int → Nat → Int → Int → Int → xM → Option (Int × xM)
  | 0, _, _, _, _, _, _, _, _, _, _ => none
  | n + 1, v0, v1, v2, v3, v6, v8, v9, v10, v11, M =>
    if yw v10 < yw v11 then (
      (isO O M v0 12).bind fun _ =>
      xcl (f_Calendarhall_nextDay O f v0 v6 10 M) fun x1 M1 =>
      f_Law_areDays_382 O f f v0 v1 v3 v6 v8 v9 v10 0 x1 M1
    ) else
    (gJ O M v3 16 5).bind fun x2 =>
    if yw x2 = yw 1 then (
      (gJ O M v3 16 6).bind fun x3 =>
      if yw x3 ≤ yw v9 then (
        f_Law_areDays_328 O f (f_Law_areDays_287 O f n) v0 v1 v2 v3 v6 v8 v9 v10 v11 M
      ) else
      f_Law_areDays_311 O f (f_Law_areDays_287 O f n) v0 v1 v2 v3 v6 v8 v9 v10 v11 M
    ) else
    f_Law_areDays_311 O f (f_Law_areDays_287 O f n) v0 v1 v2 v3 v6 v8 v9 v10 v11 M
set_option maxRecDepth 20000 in
theorem k_f_Law_areDays_287 (O : Nat → Option va_E) (f d : Nat) : ∀ (n : Nat) (v0 : Nat) (v1 : Nat) (v2 : Nat) (v3 : Nat) (v6 : Int) (v8 : Nat) (v9 : Int) (v10 : Int) (v11 : Int) (M : xM), xZ oJ O (d + 11) 13 287 [(0, .ref v0), (1, .ref v1), (2, .ref v2), (3, .ref v3), (6, .int (yw v6)), (8, .ref v8), (9, .int (yw v9)), (10, .int (yw v10)), (11, .int (yw v11))] [] M (f_Law_areDays_287 O f n v0 v1 v2 v3 v6 v8 v9 v10 v11 M) := by
  intro n
  induction n with
  | zero =>
    intro v0 v1 v2 v3 v6 v8 v9 v10 v11 M
    exact xZ.no
  | succ n ih =>
    intro v0 v1 v2 v3 v6 v8 v9 v10 v11 M
    unfold f_Law_areDays_287
    refine xZ.adv (me := xm13) hP_13 2 (pc' := 291) (lv' := [(0, .ref v0), (1, .ref v1), (2, .ref v2), (3, .ref v3), (6, .int (yw v6)), (8, .ref v8), (9, .int (yw v9)), (10, .int (yw v10)), (11, .int (yw v11))]) (st' := [.int (yw v10), .int (yw v11)]) rfl ?_
    refine xZ.jc_gt (me := xm13) hP_13 rfl (fun h1 => ?_) (fun h1 => ?_)
    · skip
      refine xZ.adv (me := xm13) hP_13 5 (pc' := 377) (lv' := [(11, .int (0 : Int32)), (0, .ref v0), (1, .ref v1), (2, .ref v2), (3, .ref v3), (6, .int (yw v6)), (8, .ref v8), (9, .int (yw v9)), (10, .int (yw v10))]) (st' := [.int (10 : Int32), .int (yw v6), .ref v0]) rfl ?_
      refine xZ.eqs (lv2 := [(11, .int (yw 0)), (0, .ref v0), (1, .ref v1), (2, .ref v2), (3, .ref v3), (6, .int (yw v6)), (8, .ref v8), (9, .int (yw v9)), (10, .int (yw v10))]) (st2 := [.int (yw 10), .int (yw v6), .ref v0]) (by simp only [yl_lit, yL_lit, yw_add, yw_sub, yw_mul, yw_neg, yl_add, yl_sub, yl_mul, cj_and, cj_or, cj_xor, cj_shl, cj_shr, cj_ushr, cj_div, cj_i2c, cj_i2b, cj_dc, ck_and, ck_or, ck_xor, ck_shl, ck_shr, ck_ushr, ck_i2l, ck_l2i, ck_cmp]) (by simp only [yl_lit, yL_lit, yw_add, yw_sub, yw_mul, yw_neg, yl_add, yl_sub, yl_mul, cj_and, cj_or, cj_xor, cj_shl, cj_shr, cj_ushr, cj_div, cj_i2c, cj_i2b, cj_dc, ck_and, ck_or, ck_xor, ck_shl, ck_shr, ck_ushr, ck_i2l, ck_l2i, ck_cmp]) ?_
      refine xZ.callv (κ := oJ) (av := [.int (yw v6), .int (yw 10)]) (rest := []) (st' := fun x1 => [.int (yw x1)]) (k0 := v0) (me := xm13) hP_13 rfl (Or.inl rfl) ⟨rfl, by decide⟩ rfl rfl (Nat.le_of_ble_eq_true rfl) (by decide) hP_91 (Nat.le_of_ble_eq_true rfl) (fun _ => rfl) (k_f_Calendarhall_nextDay O f (d + 5) v0 v6 10 M) (fun x1 M1 => ?_)
      refine xZ.adv (me := xm13) hP_13 1 (pc' := 382) (lv' := [(12, .int (yw x1)), (11, .int (yw 0)), (0, .ref v0), (1, .ref v1), (2, .ref v2), (3, .ref v3), (6, .int (yw v6)), (8, .ref v8), (9, .int (yw v9)), (10, .int (yw v10))]) (st' := []) rfl ?_
      exact xZ.sub (xsc (.tail _ (.tail _ (.head _))) (xsc (.tail _ (.tail _ (.tail _ (.head _)))) (xsc (.tail _ (.tail _ (.tail _ (.tail _ (.tail _ (.head _)))))) (xsc (.tail _ (.tail _ (.tail _ (.tail _ (.tail _ (.tail _ (.head _))))))) (xsc (.tail _ (.tail _ (.tail _ (.tail _ (.tail _ (.tail _ (.tail _ (.head _)))))))) (xsc (.tail _ (.tail _ (.tail _ (.tail _ (.tail _ (.tail _ (.tail _ (.tail _ (.head _))))))))) (xsc (.tail _ (.tail _ (.tail _ (.tail _ (.tail _ (.tail _ (.tail _ (.tail _ (.tail _ (.head _)))))))))) (xsc (.tail _ (.head _)) (xsc (.head _) xsn))))))))) (show ([12, 11, 0, 1, 2, 3, 6, 8, 9, 10] : List Nat).Nodup from by decide) (k_f_Law_areDays_382 O f d f v0 v1 v3 v6 v8 v9 v10 0 x1 M1)
    · skip
      refine xZ.adv (me := xm13) hP_13 1 (pc' := 295) (lv' := [(0, .ref v0), (1, .ref v1), (2, .ref v2), (3, .ref v3), (6, .int (yw v6)), (8, .ref v8), (9, .int (yw v9)), (10, .int (yw v10)), (11, .int (yw v11))]) (st' := [.ref v3]) rfl ?_
      refine xZ.k_gJ (me := xm13) hP_13 rfl (fun x2 => ?_)
      refine xZ.adv (me := xm13) hP_13 1 (pc' := 299) (lv' := [(0, .ref v0), (1, .ref v1), (2, .ref v2), (3, .ref v3), (6, .int (yw v6)), (8, .ref v8), (9, .int (yw v9)), (10, .int (yw v10)), (11, .int (yw v11))]) (st' := [.int (1 : Int32), .int (yw x2)]) rfl ?_
      refine xZ.eqs (lv2 := [(0, .ref v0), (1, .ref v1), (2, .ref v2), (3, .ref v3), (6, .int (yw v6)), (8, .ref v8), (9, .int (yw v9)), (10, .int (yw v10)), (11, .int (yw v11))]) (st2 := [.int (yw 1), .int (yw x2)]) rfl (by simp only [yl_lit, yL_lit, yw_add, yw_sub, yw_mul, yw_neg, yl_add, yl_sub, yl_mul, cj_and, cj_or, cj_xor, cj_shl, cj_shr, cj_ushr, cj_div, cj_i2c, cj_i2b, cj_dc, ck_and, ck_or, ck_xor, ck_shl, ck_shr, ck_ushr, ck_i2l, ck_l2i, ck_cmp]) ?_
      refine xZ.jc_ne (me := xm13) hP_13 rfl (fun h2 => ?_) (fun h2 => ?_)
      · skip
        refine xZ.adv (me := xm13) hP_13 2 (pc' := 305) (lv' := [(0, .ref v0), (1, .ref v1), (2, .ref v2), (3, .ref v3), (6, .int (yw v6)), (8, .ref v8), (9, .int (yw v9)), (10, .int (yw v10)), (11, .int (yw v11))]) (st' := [.ref v3, .int (yw v9)]) rfl ?_
        refine xZ.k_gJ (me := xm13) hP_13 rfl (fun x3 => ?_)
        refine xZ.jc_ge (me := xm13) hP_13 rfl (fun h3 => ?_) (fun h3 => ?_)
        · skip
          exact (k_f_Law_areDays_328 O f d (f_Law_areDays_287 O f n) ih v0 v1 v2 v3 v6 v8 v9 v10 v11 M)
        · skip
          exact (k_f_Law_areDays_311 O f d (f_Law_areDays_287 O f n) ih v0 v1 v2 v3 v6 v8 v9 v10 v11 M)
      · skip
        exact (k_f_Law_areDays_311 O f d (f_Law_areDays_287 O f n) ih v0 v1 v2 v3 v6 v8 v9 v10 v11 M)
def f_Law_areDays_227 (O : Nat → Option va_E) (f : Nat) : Nat → Nat → Nat → Nat → Nat → Int → Nat → Int → xM → Option (Int × xM)
  | 0, _, _, _, _, _, _, _, _ => none
  | n + 1, v0, v1, v2, v3, v6, v7, v8, M =>
    (isO O M v7 0).bind fun _ =>
    xcl (f_String_length O f v7 M) fun x1 M1 =>
    if yw x1 ≤ yw v8 then (
      xcl (nAJ M1 0 800) fun x2 M2 =>
      (gJ O M2 v3 16 0).bind fun x3 =>
      (gJ O M2 v3 16 0).bind fun x4 =>
      f_Law_areDays_287 O f f v0 v1 v2 v3 v6 x2 0 (x3 + 799) x4 M2
    ) else
    (isO O M1 v0 12).bind fun _ =>
    xcl (f_Calendarhall_writtenAt O f v0 v8 M1) fun x5 M3 =>
    (isO O M3 v7 0).bind fun _ =>
    xcl (f_String_charAt O f v7 v8 M3) fun x6 M4 =>
    if yw x5 = yw x6 then (
      f_Law_areDays_227 O f n v0 v1 v2 v3 v6 v7 (v8 + 1) M4
    ) else
    some (0, M4)
set_option maxRecDepth 20000 in
theorem k_f_Law_areDays_227 (O : Nat → Option va_E) (f d : Nat) : ∀ (n : Nat) (v0 : Nat) (v1 : Nat) (v2 : Nat) (v3 : Nat) (v6 : Int) (v7 : Nat) (v8 : Int) (M : xM), xZ oJ O (d + 11) 13 227 [(0, .ref v0), (1, .ref v1), (2, .ref v2), (3, .ref v3), (6, .int (yw v6)), (7, .ref v7), (8, .int (yw v8))] [] M (f_Law_areDays_227 O f n v0 v1 v2 v3 v6 v7 v8 M) := by
  intro n
  induction n with
  | zero =>
    intro v0 v1 v2 v3 v6 v7 v8 M
    exact xZ.no
  | succ n ih =>
    intro v0 v1 v2 v3 v6 v7 v8 M
    unfold f_Law_areDays_227
    refine xZ.adv (me := xm13) hP_13 2 (pc' := 231) (lv' := [(0, .ref v0), (1, .ref v1), (2, .ref v2), (3, .ref v3), (6, .int (yw v6)), (7, .ref v7), (8, .int (yw v8))]) (st' := [.ref v7, .int (yw v8)]) rfl ?_
    refine xZ.callv (κ := oJ) (av := []) (rest := [.int (yw v8)]) (st' := fun x1 => [.int (yw x1), .int (yw v8)]) (k0 := v7) (me := xm13) hP_13 rfl (Or.inl rfl) ⟨rfl, by decide⟩ rfl rfl (Nat.le_of_ble_eq_true rfl) (by decide) hP_267 (Nat.le_of_ble_eq_true rfl) (fun _ => rfl) (k_f_String_length O f (d + 9) v7 M) (fun x1 M1 => ?_)
    refine xZ.jc_ge (me := xm13) hP_13 rfl (fun h1 => ?_) (fun h1 => ?_)
    · skip
      refine xZ.adv (me := xm13) hP_13 1 (pc' := 264) (lv' := [(0, .ref v0), (1, .ref v1), (2, .ref v2), (3, .ref v3), (6, .int (yw v6)), (7, .ref v7), (8, .int (yw v8))]) (st' := [.int (800 : Int32)]) rfl ?_
      refine xZ.eqs (lv2 := [(0, .ref v0), (1, .ref v1), (2, .ref v2), (3, .ref v3), (6, .int (yw v6)), (7, .ref v7), (8, .int (yw v8))]) (st2 := [.int (yw 800)]) rfl (by simp only [yl_lit, yL_lit, yw_add, yw_sub, yw_mul, yw_neg, yl_add, yl_sub, yl_mul, cj_and, cj_or, cj_xor, cj_shl, cj_shr, cj_ushr, cj_div, cj_i2c, cj_i2b, cj_dc, ck_and, ck_or, ck_xor, ck_shl, ck_shr, ck_ushr, ck_i2l, ck_l2i, ck_cmp]) ?_
      refine xZ.k_nAJ (me := xm13) hP_13 rfl rfl (by decide) (fun x2 M2 => ?_)
      refine xZ.adv (me := xm13) hP_13 4 (pc' := 272) (lv' := [(9, .int (0 : Int32)), (8, .ref x2), (0, .ref v0), (1, .ref v1), (2, .ref v2), (3, .ref v3), (6, .int (yw v6)), (7, .ref v7)]) (st' := [.ref v3]) rfl ?_
      refine xZ.eqs (lv2 := [(9, .int (yw 0)), (8, .ref x2), (0, .ref v0), (1, .ref v1), (2, .ref v2), (3, .ref v3), (6, .int (yw v6)), (7, .ref v7)]) (st2 := [.ref v3]) (by simp only [yl_lit, yL_lit, yw_add, yw_sub, yw_mul, yw_neg, yl_add, yl_sub, yl_mul, cj_and, cj_or, cj_xor, cj_shl, cj_shr, cj_ushr, cj_div, cj_i2c, cj_i2b, cj_dc, ck_and, ck_or, ck_xor, ck_shl, ck_shr, ck_ushr, ck_i2l, ck_l2i, ck_cmp]) rfl ?_
      refine xZ.k_gJ (me := xm13) hP_13 rfl (fun x3 => ?_)
      refine xZ.adv (me := xm13) hP_13 4 (pc' := 282) (lv' := [(10, .int ((yw x3) + (799 : Int32))), (9, .int (yw 0)), (8, .ref x2), (0, .ref v0), (1, .ref v1), (2, .ref v2), (3, .ref v3), (6, .int (yw v6)), (7, .ref v7)]) (st' := [.ref v3]) rfl ?_
      refine xZ.eqs (lv2 := [(10, .int (yw (x3 + 799))), (9, .int (yw 0)), (8, .ref x2), (0, .ref v0), (1, .ref v1), (2, .ref v2), (3, .ref v3), (6, .int (yw v6)), (7, .ref v7)]) (st2 := [.ref v3]) (by simp only [yl_lit, yL_lit, yw_add, yw_sub, yw_mul, yw_neg, yl_add, yl_sub, yl_mul, cj_and, cj_or, cj_xor, cj_shl, cj_shr, cj_ushr, cj_div, cj_i2c, cj_i2b, cj_dc, ck_and, ck_or, ck_xor, ck_shl, ck_shr, ck_ushr, ck_i2l, ck_l2i, ck_cmp]) rfl ?_
      refine xZ.k_gJ (me := xm13) hP_13 rfl (fun x4 => ?_)
      refine xZ.adv (me := xm13) hP_13 1 (pc' := 287) (lv' := [(11, .int (yw x4)), (10, .int (yw (x3 + 799))), (9, .int (yw 0)), (8, .ref x2), (0, .ref v0), (1, .ref v1), (2, .ref v2), (3, .ref v3), (6, .int (yw v6)), (7, .ref v7)]) (st' := []) rfl ?_
      exact xZ.sub (xsc (.tail _ (.tail _ (.tail _ (.tail _ (.head _))))) (xsc (.tail _ (.tail _ (.tail _ (.tail _ (.tail _ (.head _)))))) (xsc (.tail _ (.tail _ (.tail _ (.tail _ (.tail _ (.tail _ (.head _))))))) (xsc (.tail _ (.tail _ (.tail _ (.tail _ (.tail _ (.tail _ (.tail _ (.head _)))))))) (xsc (.tail _ (.tail _ (.tail _ (.tail _ (.tail _ (.tail _ (.tail _ (.tail _ (.head _))))))))) (xsc (.tail _ (.tail _ (.tail _ (.head _)))) (xsc (.tail _ (.tail _ (.head _))) (xsc (.tail _ (.head _)) (xsc (.head _) xsn))))))))) (show ([11, 10, 9, 8, 0, 1, 2, 3, 6, 7] : List Nat).Nodup from by decide) (k_f_Law_areDays_287 O f d f v0 v1 v2 v3 v6 x2 0 (x3 + 799) x4 M2)
    · skip
      refine xZ.adv (me := xm13) hP_13 2 (pc' := 240) (lv' := [(0, .ref v0), (1, .ref v1), (2, .ref v2), (3, .ref v3), (6, .int (yw v6)), (7, .ref v7), (8, .int (yw v8))]) (st' := [.int (yw v8), .ref v0]) rfl ?_
      refine xZ.callv (κ := oJ) (av := [.int (yw v8)]) (rest := []) (st' := fun x5 => [.int (yw x5)]) (k0 := v0) (me := xm13) hP_13 rfl (Or.inl rfl) ⟨rfl, by decide⟩ rfl rfl (Nat.le_of_ble_eq_true rfl) (by decide) hP_87 (Nat.le_of_ble_eq_true rfl) (fun _ => rfl) (k_f_Calendarhall_writtenAt O f (d + 6) v0 v8 M1) (fun x5 M3 => ?_)
      refine xZ.adv (me := xm13) hP_13 2 (pc' := 247) (lv' := [(0, .ref v0), (1, .ref v1), (2, .ref v2), (3, .ref v3), (6, .int (yw v6)), (7, .ref v7), (8, .int (yw v8))]) (st' := [.int (yw v8), .ref v7, .int (yw x5)]) rfl ?_
      refine xZ.callv (κ := oJ) (av := [.int (yw v8)]) (rest := [.int (yw x5)]) (st' := fun x6 => [.int (yw x6), .int (yw x5)]) (k0 := v7) (me := xm13) hP_13 rfl (Or.inl rfl) ⟨rfl, by decide⟩ rfl rfl (Nat.le_of_ble_eq_true rfl) (by decide) hP_289 (Nat.le_of_ble_eq_true rfl) (fun _ => rfl) (k_f_String_charAt O f (d + 7) v7 v8 M3) (fun x6 M4 => ?_)
      refine xZ.jc_eq (me := xm13) hP_13 rfl (fun h2 => ?_) (fun h2 => ?_)
      · skip
        refine xZ.adv (me := xm13) hP_13 2 (pc' := 227) (lv' := [(8, .int ((yw v8) + (1 : Int32))), (0, .ref v0), (1, .ref v1), (2, .ref v2), (3, .ref v3), (6, .int (yw v6)), (7, .ref v7)]) (st' := []) rfl ?_
        refine xZ.eqs (lv2 := [(8, .int (yw (v8 + 1))), (0, .ref v0), (1, .ref v1), (2, .ref v2), (3, .ref v3), (6, .int (yw v6)), (7, .ref v7)]) (st2 := []) (by simp only [yl_lit, yL_lit, yw_add, yw_sub, yw_mul, yw_neg, yl_add, yl_sub, yl_mul, cj_and, cj_or, cj_xor, cj_shl, cj_shr, cj_ushr, cj_div, cj_i2c, cj_i2b, cj_dc, ck_and, ck_or, ck_xor, ck_shl, ck_shr, ck_ushr, ck_i2l, ck_l2i, ck_cmp]) rfl ?_
        exact xZ.sub (xsc (.tail _ (.head _)) (xsc (.tail _ (.tail _ (.head _))) (xsc (.tail _ (.tail _ (.tail _ (.head _)))) (xsc (.tail _ (.tail _ (.tail _ (.tail _ (.head _))))) (xsc (.tail _ (.tail _ (.tail _ (.tail _ (.tail _ (.head _)))))) (xsc (.tail _ (.tail _ (.tail _ (.tail _ (.tail _ (.tail _ (.head _))))))) (xsc (.head _) xsn))))))) (show ([8, 0, 1, 2, 3, 6, 7] : List Nat).Nodup from by decide) (ih v0 v1 v2 v3 v6 v7 (v8 + 1) M4)
      · skip
        refine xZ.adv (me := xm13) hP_13 1 (pc' := 254) (lv' := [(0, .ref v0), (1, .ref v1), (2, .ref v2), (3, .ref v3), (6, .int (yw v6)), (7, .ref v7), (8, .int (yw v8))]) (st' := [.int (0 : Int32)]) rfl ?_
        refine xZ.eqs (lv2 := [(0, .ref v0), (1, .ref v1), (2, .ref v2), (3, .ref v3), (6, .int (yw v6)), (7, .ref v7), (8, .int (yw v8))]) (st2 := [.int (yw 0)]) rfl (by simp only [yl_lit, yL_lit, yw_add, yw_sub, yw_mul, yw_neg, yl_add, yl_sub, yl_mul, cj_and, cj_or, cj_xor, cj_shl, cj_shr, cj_ushr, cj_div, cj_i2c, cj_i2b, cj_dc, ck_and, ck_or, ck_xor, ck_shl, ck_shr, ck_ushr, ck_i2l, ck_l2i, ck_cmp]) ?_
        exact xZ.jrete (me := xm13) hP_13 rfl rfl rfl
def f_Law_areDays_202 (O : Nat → Option va_E) (f : Nat) (v0 : Nat) (v1 : Nat) (v2 : Nat) (v3 : Nat) (v6 : Int) (M : xM) : Option (Int × xM) :=
  (isO O M v3 16).bind fun _ =>
  xcl (f_LRule_text O f v3 M) fun x1 M1 =>
  (isO O M1 v0 12).bind fun _ =>
  xcl (f_Calendarhall_write O f v0 v6 M1) fun x2 M2 =>
  (isO O M2 x1 0).bind fun _ =>
  xcl (f_String_length O f x1 M2) fun x3 M3 =>
  if yw x2 = yw x3 then (
    f_Law_areDays_227 O f f v0 v1 v2 v3 v6 x1 0 M3
  ) else
  some (0, M3)
set_option maxRecDepth 20000 in
theorem k_f_Law_areDays_202 (O : Nat → Option va_E) (f d : Nat) (v0 : Nat) (v1 : Nat) (v2 : Nat) (v3 : Nat) (v6 : Int) (M : xM) : xZ oJ O (d + 11) 13 202 [(0, .ref v0), (1, .ref v1), (2, .ref v2), (3, .ref v3), (6, .int (yw v6))] [] M (f_Law_areDays_202 O f v0 v1 v2 v3 v6 M) := by
  unfold f_Law_areDays_202
  refine xZ.adv (me := xm13) hP_13 1 (pc' := 203) (lv' := [(0, .ref v0), (1, .ref v1), (2, .ref v2), (3, .ref v3), (6, .int (yw v6))]) (st' := [.ref v3]) rfl ?_
  refine xZ.callv (κ := oR) (av := []) (rest := []) (st' := fun x1 => [.ref x1]) (k0 := v3) (me := xm13) hP_13 rfl (Or.inl rfl) ⟨rfl, by decide⟩ rfl rfl (Nat.le_of_ble_eq_true rfl) (by decide) hP_58 (Nat.le_of_ble_eq_true rfl) (fun _ => rfl) (k_f_LRule_text O f (d + 3) v3 M) (fun x1 M1 => ?_)
  refine xZ.adv (me := xm13) hP_13 3 (pc' := 211) (lv' := [(7, .ref x1), (0, .ref v0), (1, .ref v1), (2, .ref v2), (3, .ref v3), (6, .int (yw v6))]) (st' := [.int (yw v6), .ref v0]) rfl ?_
  refine xZ.callv (κ := oJ) (av := [.int (yw v6)]) (rest := []) (st' := fun x2 => [.int (yw x2)]) (k0 := v0) (me := xm13) hP_13 rfl (Or.inl rfl) ⟨rfl, by decide⟩ rfl rfl (Nat.le_of_ble_eq_true rfl) (by decide) hP_83 (Nat.le_of_ble_eq_true rfl) (fun _ => rfl) (k_f_Calendarhall_write O f (d + 0) v0 v6 M1) (fun x2 M2 => ?_)
  refine xZ.adv (me := xm13) hP_13 1 (pc' := 216) (lv' := [(7, .ref x1), (0, .ref v0), (1, .ref v1), (2, .ref v2), (3, .ref v3), (6, .int (yw v6))]) (st' := [.ref x1, .int (yw x2)]) rfl ?_
  refine xZ.callv (κ := oJ) (av := []) (rest := [.int (yw x2)]) (st' := fun x3 => [.int (yw x3), .int (yw x2)]) (k0 := x1) (me := xm13) hP_13 rfl (Or.inl rfl) ⟨rfl, by decide⟩ rfl rfl (Nat.le_of_ble_eq_true rfl) (by decide) hP_267 (Nat.le_of_ble_eq_true rfl) (fun _ => rfl) (k_f_String_length O f (d + 9) x1 M2) (fun x3 M3 => ?_)
  refine xZ.jc_eq (me := xm13) hP_13 rfl (fun h1 => ?_) (fun h1 => ?_)
  · skip
    refine xZ.adv (me := xm13) hP_13 2 (pc' := 227) (lv' := [(8, .int (0 : Int32)), (7, .ref x1), (0, .ref v0), (1, .ref v1), (2, .ref v2), (3, .ref v3), (6, .int (yw v6))]) (st' := []) rfl ?_
    refine xZ.eqs (lv2 := [(8, .int (yw 0)), (7, .ref x1), (0, .ref v0), (1, .ref v1), (2, .ref v2), (3, .ref v3), (6, .int (yw v6))]) (st2 := []) (by simp only [yl_lit, yL_lit, yw_add, yw_sub, yw_mul, yw_neg, yl_add, yl_sub, yl_mul, cj_and, cj_or, cj_xor, cj_shl, cj_shr, cj_ushr, cj_div, cj_i2c, cj_i2b, cj_dc, ck_and, ck_or, ck_xor, ck_shl, ck_shr, ck_ushr, ck_i2l, ck_l2i, ck_cmp]) rfl ?_
    exact xZ.sub (xsc (.tail _ (.tail _ (.head _))) (xsc (.tail _ (.tail _ (.tail _ (.head _)))) (xsc (.tail _ (.tail _ (.tail _ (.tail _ (.head _))))) (xsc (.tail _ (.tail _ (.tail _ (.tail _ (.tail _ (.head _)))))) (xsc (.tail _ (.tail _ (.tail _ (.tail _ (.tail _ (.tail _ (.head _))))))) (xsc (.tail _ (.head _)) (xsc (.head _) xsn))))))) (show ([8, 7, 0, 1, 2, 3, 6] : List Nat).Nodup from by decide) (k_f_Law_areDays_227 O f d f v0 v1 v2 v3 v6 x1 0 M3)
  · skip
    refine xZ.adv (me := xm13) hP_13 1 (pc' := 223) (lv' := [(7, .ref x1), (0, .ref v0), (1, .ref v1), (2, .ref v2), (3, .ref v3), (6, .int (yw v6))]) (st' := [.int (0 : Int32)]) rfl ?_
    refine xZ.eqs (lv2 := [(7, .ref x1), (0, .ref v0), (1, .ref v1), (2, .ref v2), (3, .ref v3), (6, .int (yw v6))]) (st2 := [.int (yw 0)]) rfl (by simp only [yl_lit, yL_lit, yw_add, yw_sub, yw_mul, yw_neg, yl_add, yl_sub, yl_mul, cj_and, cj_or, cj_xor, cj_shl, cj_shr, cj_ushr, cj_div, cj_i2c, cj_i2b, cj_dc, ck_and, ck_or, ck_xor, ck_shl, ck_shr, ck_ushr, ck_i2l, ck_l2i, ck_cmp]) ?_
    exact xZ.jrete (me := xm13) hP_13 rfl rfl rfl
def f_Law_areDays_164 (O : Nat → Option va_E) (f : Nat) (v0 : Nat) (v1 : Nat) (v2 : Nat) (v3 : Nat) (v6 : Int) (M : xM) : Option (Int × xM) :=
  (gJ O M v3 16 1).bind fun x1 =>
  (gJ O M v3 16 2).bind fun x2 =>
  (gJ O M v3 16 3).bind fun x3 =>
  (gJ O M v3 16 4).bind fun x4 =>
  (isO O M v0 12).bind fun _ =>
  xcl (f_Calendarhall_setRule O f v0 v6 x1 x2 x3 x4 M) fun x5 M1 =>
  (gJ O M1 v3 16 5).bind fun x6 =>
  (gJ O M1 v3 16 6).bind fun x7 =>
  (isO O M1 v0 12).bind fun _ =>
  xcl (f_Calendarhall_setEnd O f v0 v6 x6 x7 M1) fun x8 M2 =>
  f_Law_areDays_202 O f v0 v1 v2 v3 v6 M2
set_option maxRecDepth 20000 in
theorem k_f_Law_areDays_164 (O : Nat → Option va_E) (f d : Nat) (v0 : Nat) (v1 : Nat) (v2 : Nat) (v3 : Nat) (v6 : Int) (M : xM) : xZ oJ O (d + 11) 13 164 [(0, .ref v0), (1, .ref v1), (2, .ref v2), (3, .ref v3), (6, .int (yw v6))] [] M (f_Law_areDays_164 O f v0 v1 v2 v3 v6 M) := by
  unfold f_Law_areDays_164
  refine xZ.adv (me := xm13) hP_13 3 (pc' := 168) (lv' := [(0, .ref v0), (1, .ref v1), (2, .ref v2), (3, .ref v3), (6, .int (yw v6))]) (st' := [.ref v3, .int (yw v6), .ref v0]) rfl ?_
  refine xZ.k_gJ (me := xm13) hP_13 rfl (fun x1 => ?_)
  refine xZ.adv (me := xm13) hP_13 1 (pc' := 172) (lv' := [(0, .ref v0), (1, .ref v1), (2, .ref v2), (3, .ref v3), (6, .int (yw v6))]) (st' := [.ref v3, .int (yw x1), .int (yw v6), .ref v0]) rfl ?_
  refine xZ.k_gJ (me := xm13) hP_13 rfl (fun x2 => ?_)
  refine xZ.adv (me := xm13) hP_13 1 (pc' := 176) (lv' := [(0, .ref v0), (1, .ref v1), (2, .ref v2), (3, .ref v3), (6, .int (yw v6))]) (st' := [.ref v3, .int (yw x2), .int (yw x1), .int (yw v6), .ref v0]) rfl ?_
  refine xZ.k_gJ (me := xm13) hP_13 rfl (fun x3 => ?_)
  refine xZ.adv (me := xm13) hP_13 1 (pc' := 180) (lv' := [(0, .ref v0), (1, .ref v1), (2, .ref v2), (3, .ref v3), (6, .int (yw v6))]) (st' := [.ref v3, .int (yw x3), .int (yw x2), .int (yw x1), .int (yw v6), .ref v0]) rfl ?_
  refine xZ.k_gJ (me := xm13) hP_13 rfl (fun x4 => ?_)
  refine xZ.callv (κ := oJ) (av := [.int (yw v6), .int (yw x1), .int (yw x2), .int (yw x3), .int (yw x4)]) (rest := []) (st' := fun x5 => [.int (yw x5)]) (k0 := v0) (me := xm13) hP_13 rfl (Or.inl rfl) ⟨rfl, by decide⟩ rfl rfl (Nat.le_of_ble_eq_true rfl) (by decide) hP_80 (Nat.le_of_ble_eq_true rfl) (fun _ => rfl) (k_f_Calendarhall_setRule O f (d + 3) v0 v6 x1 x2 x3 x4 M) (fun x5 M1 => ?_)
  refine xZ.adv (me := xm13) hP_13 4 (pc' := 191) (lv' := [(0, .ref v0), (1, .ref v1), (2, .ref v2), (3, .ref v3), (6, .int (yw v6))]) (st' := [.ref v3, .int (yw v6), .ref v0]) rfl ?_
  refine xZ.k_gJ (me := xm13) hP_13 rfl (fun x6 => ?_)
  refine xZ.adv (me := xm13) hP_13 1 (pc' := 195) (lv' := [(0, .ref v0), (1, .ref v1), (2, .ref v2), (3, .ref v3), (6, .int (yw v6))]) (st' := [.ref v3, .int (yw x6), .int (yw v6), .ref v0]) rfl ?_
  refine xZ.k_gJ (me := xm13) hP_13 rfl (fun x7 => ?_)
  refine xZ.callv (κ := oJ) (av := [.int (yw v6), .int (yw x6), .int (yw x7)]) (rest := []) (st' := fun x8 => [.int (yw x8)]) (k0 := v0) (me := xm13) hP_13 rfl (Or.inl rfl) ⟨rfl, by decide⟩ rfl rfl (Nat.le_of_ble_eq_true rfl) (by decide) hP_82 (Nat.le_of_ble_eq_true rfl) (fun _ => rfl) (k_f_Calendarhall_setEnd O f (d + 3) v0 v6 x6 x7 M1) (fun x8 M2 => ?_)
  refine xZ.adv (me := xm13) hP_13 1 (pc' := 202) (lv' := [(0, .ref v0), (1, .ref v1), (2, .ref v2), (3, .ref v3), (6, .int (yw v6))]) (st' := []) rfl ?_
  exact (k_f_Law_areDays_202 O f d v0 v1 v2 v3 v6 M2)
def f_Law_areDays_83 (O : Nat → Option va_E) (f : Nat) (v0 : Nat) (v1 : Nat) (v2 : Nat) (v3 : Nat) (v4 : Int) (v5 : Int) (M : xM) : Option (Int × xM) :=
  (gJ O M v3 16 0).bind fun x1 =>
  (isO O M v1 15).bind fun _ =>
  xcl (f_LDraw_n O f v1 600 M) fun x2 M1 =>
  (isO O M1 v1 15).bind fun _ =>
  xcl (f_LDraw_n O f v1 256 M1) fun x3 M2 =>
  (isO O M2 v1 15).bind fun _ =>
  xcl (f_LDraw_is O f v1 2 M2) fun x4 M3 =>
  (isO O M3 v0 12).bind fun _ =>
  xcl (f_Calendarhall_addSeries O f v0 v4 x1 v5 (1 + x2) x3 x4 M3) fun x5 M4 =>
  (isO O M4 v3 16).bind fun _ =>
  xcl (f_LRule_isRead O f v3 M4) fun x6 M5 =>
  if yw x6 = yw 0 then (
    f_Law_areDays_164 O f v0 v1 v2 v3 x5 M5
  ) else
  (isO O M5 v1 15).bind fun _ =>
  xcl (f_LDraw_is O f v1 2 M5) fun x7 M6 =>
  if yw x7 = yw 0 then (
    f_Law_areDays_164 O f v0 v1 v2 v3 x5 M6
  ) else
  (isO O M6 v3 16).bind fun _ =>
  xcl (f_LRule_text O f v3 M6) fun x8 M7 =>
  xcl (f_Law_type O f v0 x8 M7) fun _ M8 =>
  (isO O M8 v0 12).bind fun _ =>
  xcl (f_Calendarhall_errorPlace O f v0 M8) fun x10 M9 =>
  if yw x10 = yw (-1) then (
    (isO O M9 v0 12).bind fun _ =>
    xcl (f_Calendarhall_readRule O f v0 x5 M9) fun x11 M10 =>
    (gJ O M10 v3 16 1).bind fun x12 =>
    if yw x11 = yw x12 then (
      f_Law_areDays_202 O f v0 v1 v2 v3 x5 M10
    ) else
    some (0, M10)
  ) else
  some (0, M9)
set_option maxRecDepth 20000 in
theorem k_f_Law_areDays_83 (O : Nat → Option va_E) (f d : Nat) (v0 : Nat) (v1 : Nat) (v2 : Nat) (v3 : Nat) (v4 : Int) (v5 : Int) (M : xM) : xZ oJ O (d + 11) 13 83 [(0, .ref v0), (1, .ref v1), (2, .ref v2), (3, .ref v3), (4, .int (yw v4)), (5, .int (yw v5))] [] M (f_Law_areDays_83 O f v0 v1 v2 v3 v4 v5 M) := by
  unfold f_Law_areDays_83
  refine xZ.adv (me := xm13) hP_13 3 (pc' := 87) (lv' := [(0, .ref v0), (1, .ref v1), (2, .ref v2), (3, .ref v3), (4, .int (yw v4)), (5, .int (yw v5))]) (st' := [.ref v3, .int (yw v4), .ref v0]) rfl ?_
  refine xZ.k_gJ (me := xm13) hP_13 rfl (fun x1 => ?_)
  refine xZ.adv (me := xm13) hP_13 4 (pc' := 97) (lv' := [(0, .ref v0), (1, .ref v1), (2, .ref v2), (3, .ref v3), (4, .int (yw v4)), (5, .int (yw v5))]) (st' := [.int (600 : Int32), .ref v1, .int (1 : Int32), .int (yw v5), .int (yw x1), .int (yw v4), .ref v0]) rfl ?_
  refine xZ.eqs (lv2 := [(0, .ref v0), (1, .ref v1), (2, .ref v2), (3, .ref v3), (4, .int (yw v4)), (5, .int (yw v5))]) (st2 := [.int (yw 600), .ref v1, .int (yw 1), .int (yw v5), .int (yw x1), .int (yw v4), .ref v0]) rfl (by simp only [yl_lit, yL_lit, yw_add, yw_sub, yw_mul, yw_neg, yl_add, yl_sub, yl_mul, cj_and, cj_or, cj_xor, cj_shl, cj_shr, cj_ushr, cj_div, cj_i2c, cj_i2b, cj_dc, ck_and, ck_or, ck_xor, ck_shl, ck_shr, ck_ushr, ck_i2l, ck_l2i, ck_cmp]) ?_
  refine xZ.callv (κ := oJ) (av := [.int (yw 600)]) (rest := [.int (yw 1), .int (yw v5), .int (yw x1), .int (yw v4), .ref v0]) (st' := fun x2 => [.int (yw x2), .int (yw 1), .int (yw v5), .int (yw x1), .int (yw v4), .ref v0]) (k0 := v1) (me := xm13) hP_13 rfl (Or.inl rfl) ⟨rfl, by decide⟩ rfl rfl (Nat.le_of_ble_eq_true rfl) (by decide) hP_12 (Nat.le_of_ble_eq_true rfl) (fun _ => rfl) (k_f_LDraw_n O f (d + 10) v1 600 M) (fun x2 M1 => ?_)
  refine xZ.adv (me := xm13) hP_13 3 (pc' := 105) (lv' := [(0, .ref v0), (1, .ref v1), (2, .ref v2), (3, .ref v3), (4, .int (yw v4)), (5, .int (yw v5))]) (st' := [.int (256 : Int32), .ref v1, .int ((yw 1) + (yw x2)), .int (yw v5), .int (yw x1), .int (yw v4), .ref v0]) rfl ?_
  refine xZ.eqs (lv2 := [(0, .ref v0), (1, .ref v1), (2, .ref v2), (3, .ref v3), (4, .int (yw v4)), (5, .int (yw v5))]) (st2 := [.int (yw 256), .ref v1, .int (yw (1 + x2)), .int (yw v5), .int (yw x1), .int (yw v4), .ref v0]) rfl (by simp only [yl_lit, yL_lit, yw_add, yw_sub, yw_mul, yw_neg, yl_add, yl_sub, yl_mul, cj_and, cj_or, cj_xor, cj_shl, cj_shr, cj_ushr, cj_div, cj_i2c, cj_i2b, cj_dc, ck_and, ck_or, ck_xor, ck_shl, ck_shr, ck_ushr, ck_i2l, ck_l2i, ck_cmp]) ?_
  refine xZ.callv (κ := oJ) (av := [.int (yw 256)]) (rest := [.int (yw (1 + x2)), .int (yw v5), .int (yw x1), .int (yw v4), .ref v0]) (st' := fun x3 => [.int (yw x3), .int (yw (1 + x2)), .int (yw v5), .int (yw x1), .int (yw v4), .ref v0]) (k0 := v1) (me := xm13) hP_13 rfl (Or.inl rfl) ⟨rfl, by decide⟩ rfl rfl (Nat.le_of_ble_eq_true rfl) (by decide) hP_12 (Nat.le_of_ble_eq_true rfl) (fun _ => rfl) (k_f_LDraw_n O f (d + 10) v1 256 M1) (fun x3 M2 => ?_)
  refine xZ.adv (me := xm13) hP_13 2 (pc' := 110) (lv' := [(0, .ref v0), (1, .ref v1), (2, .ref v2), (3, .ref v3), (4, .int (yw v4)), (5, .int (yw v5))]) (st' := [.int (2 : Int32), .ref v1, .int (yw x3), .int (yw (1 + x2)), .int (yw v5), .int (yw x1), .int (yw v4), .ref v0]) rfl ?_
  refine xZ.eqs (lv2 := [(0, .ref v0), (1, .ref v1), (2, .ref v2), (3, .ref v3), (4, .int (yw v4)), (5, .int (yw v5))]) (st2 := [.int (yw 2), .ref v1, .int (yw x3), .int (yw (1 + x2)), .int (yw v5), .int (yw x1), .int (yw v4), .ref v0]) rfl (by simp only [yl_lit, yL_lit, yw_add, yw_sub, yw_mul, yw_neg, yl_add, yl_sub, yl_mul, cj_and, cj_or, cj_xor, cj_shl, cj_shr, cj_ushr, cj_div, cj_i2c, cj_i2b, cj_dc, ck_and, ck_or, ck_xor, ck_shl, ck_shr, ck_ushr, ck_i2l, ck_l2i, ck_cmp]) ?_
  refine xZ.callv (κ := oJ) (av := [.int (yw 2)]) (rest := [.int (yw x3), .int (yw (1 + x2)), .int (yw v5), .int (yw x1), .int (yw v4), .ref v0]) (st' := fun x4 => [.int (yw x4), .int (yw x3), .int (yw (1 + x2)), .int (yw v5), .int (yw x1), .int (yw v4), .ref v0]) (k0 := v1) (me := xm13) hP_13 rfl (Or.inl rfl) ⟨rfl, by decide⟩ rfl rfl (Nat.le_of_ble_eq_true rfl) (by decide) hP_18 (Nat.le_of_ble_eq_true rfl) (fun _ => rfl) (k_f_LDraw_is O f (d + 9) v1 2 M2) (fun x4 M3 => ?_)
  refine xZ.callv (κ := oJ) (av := [.int (yw v4), .int (yw x1), .int (yw v5), .int (yw (1 + x2)), .int (yw x3), .int (yw x4)]) (rest := []) (st' := fun x5 => [.int (yw x5)]) (k0 := v0) (me := xm13) hP_13 rfl (Or.inl rfl) ⟨rfl, by decide⟩ rfl rfl (Nat.le_of_ble_eq_true rfl) (by decide) hP_36 (Nat.le_of_ble_eq_true rfl) (fun _ => rfl) (k_f_Calendarhall_addSeries O f (d + 3) v0 v4 x1 v5 (1 + x2) x3 x4 M3) (fun x5 M4 => ?_)
  refine xZ.adv (me := xm13) hP_13 2 (pc' := 119) (lv' := [(6, .int (yw x5)), (0, .ref v0), (1, .ref v1), (2, .ref v2), (3, .ref v3), (4, .int (yw v4)), (5, .int (yw v5))]) (st' := [.ref v3]) rfl ?_
  refine xZ.callv (κ := oJ) (av := []) (rest := []) (st' := fun x6 => [.int (yw x6)]) (k0 := v3) (me := xm13) hP_13 rfl (Or.inl rfl) ⟨rfl, by decide⟩ rfl rfl (Nat.le_of_ble_eq_true rfl) (by decide) hP_57 (Nat.le_of_ble_eq_true rfl) (fun _ => rfl) (k_f_LRule_isRead O f (d + 10) v3 M4) (fun x6 M5 => ?_)
  refine xZ.jf_eq (me := xm13) hP_13 rfl (fun h1 => ?_) (fun h1 => ?_)
  · skip
    exact xZ.sub (xsc (.tail _ (.head _)) (xsc (.tail _ (.tail _ (.head _))) (xsc (.tail _ (.tail _ (.tail _ (.head _)))) (xsc (.tail _ (.tail _ (.tail _ (.tail _ (.head _))))) (xsc (.head _) xsn))))) (show ([6, 0, 1, 2, 3, 4, 5] : List Nat).Nodup from by decide) (k_f_Law_areDays_164 O f d v0 v1 v2 v3 x5 M5)
  · skip
    refine xZ.adv (me := xm13) hP_13 2 (pc' := 127) (lv' := [(6, .int (yw x5)), (0, .ref v0), (1, .ref v1), (2, .ref v2), (3, .ref v3), (4, .int (yw v4)), (5, .int (yw v5))]) (st' := [.int (2 : Int32), .ref v1]) rfl ?_
    refine xZ.eqs (lv2 := [(6, .int (yw x5)), (0, .ref v0), (1, .ref v1), (2, .ref v2), (3, .ref v3), (4, .int (yw v4)), (5, .int (yw v5))]) (st2 := [.int (yw 2), .ref v1]) rfl (by simp only [yl_lit, yL_lit, yw_add, yw_sub, yw_mul, yw_neg, yl_add, yl_sub, yl_mul, cj_and, cj_or, cj_xor, cj_shl, cj_shr, cj_ushr, cj_div, cj_i2c, cj_i2b, cj_dc, ck_and, ck_or, ck_xor, ck_shl, ck_shr, ck_ushr, ck_i2l, ck_l2i, ck_cmp]) ?_
    refine xZ.callv (κ := oJ) (av := [.int (yw 2)]) (rest := []) (st' := fun x7 => [.int (yw x7)]) (k0 := v1) (me := xm13) hP_13 rfl (Or.inl rfl) ⟨rfl, by decide⟩ rfl rfl (Nat.le_of_ble_eq_true rfl) (by decide) hP_18 (Nat.le_of_ble_eq_true rfl) (fun _ => rfl) (k_f_LDraw_is O f (d + 9) v1 2 M5) (fun x7 M6 => ?_)
    refine xZ.jf_eq (me := xm13) hP_13 rfl (fun h2 => ?_) (fun h2 => ?_)
    · skip
      exact xZ.sub (xsc (.tail _ (.head _)) (xsc (.tail _ (.tail _ (.head _))) (xsc (.tail _ (.tail _ (.tail _ (.head _)))) (xsc (.tail _ (.tail _ (.tail _ (.tail _ (.head _))))) (xsc (.head _) xsn))))) (show ([6, 0, 1, 2, 3, 4, 5] : List Nat).Nodup from by decide) (k_f_Law_areDays_164 O f d v0 v1 v2 v3 x5 M6)
    · skip
      refine xZ.adv (me := xm13) hP_13 2 (pc' := 135) (lv' := [(6, .int (yw x5)), (0, .ref v0), (1, .ref v1), (2, .ref v2), (3, .ref v3), (4, .int (yw v4)), (5, .int (yw v5))]) (st' := [.ref v3, .ref v0]) rfl ?_
      refine xZ.callv (κ := oR) (av := []) (rest := [.ref v0]) (st' := fun x8 => [.ref x8, .ref v0]) (k0 := v3) (me := xm13) hP_13 rfl (Or.inl rfl) ⟨rfl, by decide⟩ rfl rfl (Nat.le_of_ble_eq_true rfl) (by decide) hP_58 (Nat.le_of_ble_eq_true rfl) (fun _ => rfl) (k_f_LRule_text O f (d + 3) v3 M6) (fun x8 M7 => ?_)
      refine xZ.calls (κ := oU) (av := [.ref v0, .ref x8]) (rest := []) (st' := fun _ => []) (me := xm13) hP_13 rfl rfl rfl (Nat.le_of_ble_eq_true rfl) (by decide) hP_59 (Nat.le_of_ble_eq_true rfl) (fun _ => rfl) (k_f_Law_type O f (d + 6) v0 x8 M7) (fun _ M8 => ?_)
      refine xZ.adv (me := xm13) hP_13 1 (pc' := 142) (lv' := [(6, .int (yw x5)), (0, .ref v0), (1, .ref v1), (2, .ref v2), (3, .ref v3), (4, .int (yw v4)), (5, .int (yw v5))]) (st' := [.ref v0]) rfl ?_
      refine xZ.callv (κ := oJ) (av := []) (rest := []) (st' := fun x10 => [.int (yw x10)]) (k0 := v0) (me := xm13) hP_13 rfl (Or.inl rfl) ⟨rfl, by decide⟩ rfl rfl (Nat.le_of_ble_eq_true rfl) (by decide) hP_63 (Nat.le_of_ble_eq_true rfl) (fun _ => rfl) (k_f_Calendarhall_errorPlace O f (d + 0) v0 M8) (fun x10 M9 => ?_)
      refine xZ.adv (me := xm13) hP_13 1 (pc' := 146) (lv' := [(6, .int (yw x5)), (0, .ref v0), (1, .ref v1), (2, .ref v2), (3, .ref v3), (4, .int (yw v4)), (5, .int (yw v5))]) (st' := [.int (-1 : Int32), .int (yw x10)]) rfl ?_
      refine xZ.eqs (lv2 := [(6, .int (yw x5)), (0, .ref v0), (1, .ref v1), (2, .ref v2), (3, .ref v3), (4, .int (yw v4)), (5, .int (yw v5))]) (st2 := [.int (yw (-1)), .int (yw x10)]) rfl (by simp only [yl_lit, yL_lit, yw_add, yw_sub, yw_mul, yw_neg, yl_add, yl_sub, yl_mul, cj_and, cj_or, cj_xor, cj_shl, cj_shr, cj_ushr, cj_div, cj_i2c, cj_i2b, cj_dc, ck_and, ck_or, ck_xor, ck_shl, ck_shr, ck_ushr, ck_i2l, ck_l2i, ck_cmp]) ?_
      refine xZ.jc_ne (me := xm13) hP_13 rfl (fun h3 => ?_) (fun h3 => ?_)
      · skip
        refine xZ.adv (me := xm13) hP_13 2 (pc' := 152) (lv' := [(6, .int (yw x5)), (0, .ref v0), (1, .ref v1), (2, .ref v2), (3, .ref v3), (4, .int (yw v4)), (5, .int (yw v5))]) (st' := [.int (yw x5), .ref v0]) rfl ?_
        refine xZ.callv (κ := oJ) (av := [.int (yw x5)]) (rest := []) (st' := fun x11 => [.int (yw x11)]) (k0 := v0) (me := xm13) hP_13 rfl (Or.inl rfl) ⟨rfl, by decide⟩ rfl rfl (Nat.le_of_ble_eq_true rfl) (by decide) hP_78 (Nat.le_of_ble_eq_true rfl) (fun _ => rfl) (k_f_Calendarhall_readRule O f (d + 0) v0 x5 M9) (fun x11 M10 => ?_)
        refine xZ.adv (me := xm13) hP_13 1 (pc' := 156) (lv' := [(6, .int (yw x5)), (0, .ref v0), (1, .ref v1), (2, .ref v2), (3, .ref v3), (4, .int (yw v4)), (5, .int (yw v5))]) (st' := [.ref v3, .int (yw x11)]) rfl ?_
        refine xZ.k_gJ (me := xm13) hP_13 rfl (fun x12 => ?_)
        refine xZ.jc_eq (me := xm13) hP_13 rfl (fun h4 => ?_) (fun h4 => ?_)
        · skip
          exact xZ.sub (xsc (.tail _ (.head _)) (xsc (.tail _ (.tail _ (.head _))) (xsc (.tail _ (.tail _ (.tail _ (.head _)))) (xsc (.tail _ (.tail _ (.tail _ (.tail _ (.head _))))) (xsc (.head _) xsn))))) (show ([6, 0, 1, 2, 3, 4, 5] : List Nat).Nodup from by decide) (k_f_Law_areDays_202 O f d v0 v1 v2 v3 x5 M10)
        · skip
          refine xZ.adv (me := xm13) hP_13 1 (pc' := 163) (lv' := [(6, .int (yw x5)), (0, .ref v0), (1, .ref v1), (2, .ref v2), (3, .ref v3), (4, .int (yw v4)), (5, .int (yw v5))]) (st' := [.int (0 : Int32)]) rfl ?_
          refine xZ.eqs (lv2 := [(6, .int (yw x5)), (0, .ref v0), (1, .ref v1), (2, .ref v2), (3, .ref v3), (4, .int (yw v4)), (5, .int (yw v5))]) (st2 := [.int (yw 0)]) rfl (by simp only [yl_lit, yL_lit, yw_add, yw_sub, yw_mul, yw_neg, yl_add, yl_sub, yl_mul, cj_and, cj_or, cj_xor, cj_shl, cj_shr, cj_ushr, cj_div, cj_i2c, cj_i2b, cj_dc, ck_and, ck_or, ck_xor, ck_shl, ck_shr, ck_ushr, ck_i2l, ck_l2i, ck_cmp]) ?_
          exact xZ.jrete (me := xm13) hP_13 rfl rfl rfl
      · skip
        refine xZ.adv (me := xm13) hP_13 1 (pc' := 163) (lv' := [(6, .int (yw x5)), (0, .ref v0), (1, .ref v1), (2, .ref v2), (3, .ref v3), (4, .int (yw v4)), (5, .int (yw v5))]) (st' := [.int (0 : Int32)]) rfl ?_
        refine xZ.eqs (lv2 := [(6, .int (yw x5)), (0, .ref v0), (1, .ref v1), (2, .ref v2), (3, .ref v3), (4, .int (yw v4)), (5, .int (yw v5))]) (st2 := [.int (yw 0)]) rfl (by simp only [yl_lit, yL_lit, yw_add, yw_sub, yw_mul, yw_neg, yl_add, yl_sub, yl_mul, cj_and, cj_or, cj_xor, cj_shl, cj_shr, cj_ushr, cj_div, cj_i2c, cj_i2b, cj_dc, ck_and, ck_or, ck_xor, ck_shl, ck_shr, ck_ushr, ck_i2l, ck_l2i, ck_cmp]) ?_
        exact xZ.jrete (me := xm13) hP_13 rfl rfl rfl
def f_Law_areDays (O : Nat → Option va_E) (f : Nat) (v0 : Nat) (v1 : Nat) (M : xM) : Option (Int × xM) :=
  xcl (nO M 14) fun x1 M1 =>
  xcl (f_LDays_ctor O f x1 M1) fun _ M2 =>
  xcl (nO M2 16) fun x3 M3 =>
  xcl (f_LRule_ctor O f x3 M3) fun _ M4 =>
  (isO O M4 v1 15).bind fun _ =>
  xcl (f_LDraw_n O f v1 3000 M4) fun x5 M5 =>
  (isO O M5 x3 16).bind fun _ =>
  xcl (f_LRule_draw O f x3 v1 (10 + x5) M5) fun _ M6 =>
  (isO O M6 v1 15).bind fun _ =>
  xcl (f_LDraw_n O f v1 3 M6) fun x7 M7 =>
  (isO O M7 v1 15).bind fun _ =>
  xcl (f_LDraw_n O f v1 1440 M7) fun x8 M8 =>
  (isO O M8 v1 15).bind fun _ =>
  xcl (f_LDraw_is O f v1 2 M8) fun x9 M9 =>
  if yw x9 = yw 0 then (
    f_Law_areDays_83 O f v0 v1 x1 x3 x7 x8 M9
  ) else
  (isO O M9 v1 15).bind fun _ =>
  xcl (f_LDraw_n O f v1 105 M9) fun x10 M10 =>
  (isO O M10 v1 15).bind fun _ =>
  xcl (f_LDraw_n O f v1 9 M10) fun x11 M11 =>
  (isO O M11 v0 12).bind fun _ =>
  xcl (f_Calendarhall_setZone O f v0 x7 (15 * (x10 - 48)) (15 * x11) M11) fun x12 M12 =>
  f_Law_areDays_83 O f v0 v1 x1 x3 x7 x8 M12
set_option maxRecDepth 20000 in
theorem k_f_Law_areDays (O : Nat → Option va_E) (f d : Nat) (v0 : Nat) (v1 : Nat) (M : xM) : xZ oJ O (d + 11) 13 0 [(0, .ref v0), (1, .ref v1)] [] M (f_Law_areDays O f v0 v1 M) := by
  unfold f_Law_areDays
  refine xZ.k_nO (me := xm13) hP_13 rfl rfl (fun x1 M1 => ?_)
  refine xZ.adv (me := xm13) hP_13 1 (pc' := 4) (lv' := [(0, .ref v0), (1, .ref v1)]) (st' := [.ref x1, .ref x1]) rfl ?_
  refine xZ.calli (κ := oU) (av := []) (rest := [.ref x1]) (st' := fun _ => [.ref x1]) (k0 := x1) (me := xm13) hP_13 rfl (Or.inl rfl) rfl rfl (Nat.le_of_ble_eq_true rfl) (by decide) hP_14 (Nat.le_of_ble_eq_true rfl) (fun _ => rfl) (k_f_LDays_ctor O f (d + 9) x1 M1) (fun _ M2 => ?_)
  refine xZ.adv (me := xm13) hP_13 1 (pc' := 8) (lv' := [(2, .ref x1), (0, .ref v0), (1, .ref v1)]) (st' := []) rfl ?_
  refine xZ.k_nO (me := xm13) hP_13 rfl rfl (fun x3 M3 => ?_)
  refine xZ.adv (me := xm13) hP_13 1 (pc' := 12) (lv' := [(2, .ref x1), (0, .ref v0), (1, .ref v1)]) (st' := [.ref x3, .ref x3]) rfl ?_
  refine xZ.calli (κ := oU) (av := []) (rest := [.ref x3]) (st' := fun _ => [.ref x3]) (k0 := x3) (me := xm13) hP_13 rfl (Or.inr rfl) rfl rfl (Nat.le_of_ble_eq_true rfl) (by decide) hP_16 (Nat.le_of_ble_eq_true rfl) (fun _ => rfl) (k_f_LRule_ctor O f (d + 10) x3 M3) (fun _ M4 => ?_)
  refine xZ.adv (me := xm13) hP_13 6 (pc' := 24) (lv' := [(3, .ref x3), (2, .ref x1), (0, .ref v0), (1, .ref v1)]) (st' := [.int (3000 : Int32), .ref v1, .int (10 : Int32), .ref v1, .ref x3]) rfl ?_
  refine xZ.eqs (lv2 := [(3, .ref x3), (2, .ref x1), (0, .ref v0), (1, .ref v1)]) (st2 := [.int (yw 3000), .ref v1, .int (yw 10), .ref v1, .ref x3]) rfl (by simp only [yl_lit, yL_lit, yw_add, yw_sub, yw_mul, yw_neg, yl_add, yl_sub, yl_mul, cj_and, cj_or, cj_xor, cj_shl, cj_shr, cj_ushr, cj_div, cj_i2c, cj_i2b, cj_dc, ck_and, ck_or, ck_xor, ck_shl, ck_shr, ck_ushr, ck_i2l, ck_l2i, ck_cmp]) ?_
  refine xZ.callv (κ := oJ) (av := [.int (yw 3000)]) (rest := [.int (yw 10), .ref v1, .ref x3]) (st' := fun x5 => [.int (yw x5), .int (yw 10), .ref v1, .ref x3]) (k0 := v1) (me := xm13) hP_13 rfl (Or.inl rfl) ⟨rfl, by decide⟩ rfl rfl (Nat.le_of_ble_eq_true rfl) (by decide) hP_12 (Nat.le_of_ble_eq_true rfl) (fun _ => rfl) (k_f_LDraw_n O f (d + 10) v1 3000 M4) (fun x5 M5 => ?_)
  refine xZ.adv (me := xm13) hP_13 1 (pc' := 28) (lv' := [(3, .ref x3), (2, .ref x1), (0, .ref v0), (1, .ref v1)]) (st' := [.int ((yw 10) + (yw x5)), .ref v1, .ref x3]) rfl ?_
  refine xZ.eqs (lv2 := [(3, .ref x3), (2, .ref x1), (0, .ref v0), (1, .ref v1)]) (st2 := [.int (yw (10 + x5)), .ref v1, .ref x3]) rfl (by simp only [yl_lit, yL_lit, yw_add, yw_sub, yw_mul, yw_neg, yl_add, yl_sub, yl_mul, cj_and, cj_or, cj_xor, cj_shl, cj_shr, cj_ushr, cj_div, cj_i2c, cj_i2b, cj_dc, ck_and, ck_or, ck_xor, ck_shl, ck_shr, ck_ushr, ck_i2l, ck_l2i, ck_cmp]) ?_
  refine xZ.callv (κ := oU) (av := [.ref v1, .int (yw (10 + x5))]) (rest := []) (st' := fun _ => []) (k0 := x3) (me := xm13) hP_13 rfl (Or.inl rfl) ⟨rfl, by decide⟩ rfl rfl (Nat.le_of_ble_eq_true rfl) (by decide) hP_17 (Nat.le_of_ble_eq_true rfl) (fun _ => rfl) (k_f_LRule_draw O f (d + 8) x3 v1 (10 + x5) M5) (fun _ M6 => ?_)
  refine xZ.adv (me := xm13) hP_13 2 (pc' := 33) (lv' := [(3, .ref x3), (2, .ref x1), (0, .ref v0), (1, .ref v1)]) (st' := [.int (3 : Int32), .ref v1]) rfl ?_
  refine xZ.eqs (lv2 := [(3, .ref x3), (2, .ref x1), (0, .ref v0), (1, .ref v1)]) (st2 := [.int (yw 3), .ref v1]) rfl (by simp only [yl_lit, yL_lit, yw_add, yw_sub, yw_mul, yw_neg, yl_add, yl_sub, yl_mul, cj_and, cj_or, cj_xor, cj_shl, cj_shr, cj_ushr, cj_div, cj_i2c, cj_i2b, cj_dc, ck_and, ck_or, ck_xor, ck_shl, ck_shr, ck_ushr, ck_i2l, ck_l2i, ck_cmp]) ?_
  refine xZ.callv (κ := oJ) (av := [.int (yw 3)]) (rest := []) (st' := fun x7 => [.int (yw x7)]) (k0 := v1) (me := xm13) hP_13 rfl (Or.inl rfl) ⟨rfl, by decide⟩ rfl rfl (Nat.le_of_ble_eq_true rfl) (by decide) hP_12 (Nat.le_of_ble_eq_true rfl) (fun _ => rfl) (k_f_LDraw_n O f (d + 10) v1 3 M6) (fun x7 M7 => ?_)
  refine xZ.adv (me := xm13) hP_13 3 (pc' := 42) (lv' := [(4, .int (yw x7)), (3, .ref x3), (2, .ref x1), (0, .ref v0), (1, .ref v1)]) (st' := [.int (1440 : Int32), .ref v1]) rfl ?_
  refine xZ.eqs (lv2 := [(4, .int (yw x7)), (3, .ref x3), (2, .ref x1), (0, .ref v0), (1, .ref v1)]) (st2 := [.int (yw 1440), .ref v1]) rfl (by simp only [yl_lit, yL_lit, yw_add, yw_sub, yw_mul, yw_neg, yl_add, yl_sub, yl_mul, cj_and, cj_or, cj_xor, cj_shl, cj_shr, cj_ushr, cj_div, cj_i2c, cj_i2b, cj_dc, ck_and, ck_or, ck_xor, ck_shl, ck_shr, ck_ushr, ck_i2l, ck_l2i, ck_cmp]) ?_
  refine xZ.callv (κ := oJ) (av := [.int (yw 1440)]) (rest := []) (st' := fun x8 => [.int (yw x8)]) (k0 := v1) (me := xm13) hP_13 rfl (Or.inl rfl) ⟨rfl, by decide⟩ rfl rfl (Nat.le_of_ble_eq_true rfl) (by decide) hP_12 (Nat.le_of_ble_eq_true rfl) (fun _ => rfl) (k_f_LDraw_n O f (d + 10) v1 1440 M7) (fun x8 M8 => ?_)
  refine xZ.adv (me := xm13) hP_13 3 (pc' := 49) (lv' := [(5, .int (yw x8)), (4, .int (yw x7)), (3, .ref x3), (2, .ref x1), (0, .ref v0), (1, .ref v1)]) (st' := [.int (2 : Int32), .ref v1]) rfl ?_
  refine xZ.eqs (lv2 := [(5, .int (yw x8)), (4, .int (yw x7)), (3, .ref x3), (2, .ref x1), (0, .ref v0), (1, .ref v1)]) (st2 := [.int (yw 2), .ref v1]) rfl (by simp only [yl_lit, yL_lit, yw_add, yw_sub, yw_mul, yw_neg, yl_add, yl_sub, yl_mul, cj_and, cj_or, cj_xor, cj_shl, cj_shr, cj_ushr, cj_div, cj_i2c, cj_i2b, cj_dc, ck_and, ck_or, ck_xor, ck_shl, ck_shr, ck_ushr, ck_i2l, ck_l2i, ck_cmp]) ?_
  refine xZ.callv (κ := oJ) (av := [.int (yw 2)]) (rest := []) (st' := fun x9 => [.int (yw x9)]) (k0 := v1) (me := xm13) hP_13 rfl (Or.inl rfl) ⟨rfl, by decide⟩ rfl rfl (Nat.le_of_ble_eq_true rfl) (by decide) hP_18 (Nat.le_of_ble_eq_true rfl) (fun _ => rfl) (k_f_LDraw_is O f (d + 9) v1 2 M8) (fun x9 M9 => ?_)
  refine xZ.jf_eq (me := xm13) hP_13 rfl (fun h1 => ?_) (fun h1 => ?_)
  · skip
    exact xZ.sub (xsc (.tail _ (.tail _ (.tail _ (.tail _ (.head _))))) (xsc (.tail _ (.tail _ (.tail _ (.tail _ (.tail _ (.head _)))))) (xsc (.tail _ (.tail _ (.tail _ (.head _)))) (xsc (.tail _ (.tail _ (.head _))) (xsc (.tail _ (.head _)) (xsc (.head _) xsn)))))) (show ([5, 4, 3, 2, 0, 1] : List Nat).Nodup from by decide) (k_f_Law_areDays_83 O f d v0 v1 x1 x3 x7 x8 M9)
  · skip
    refine xZ.adv (me := xm13) hP_13 5 (pc' := 63) (lv' := [(5, .int (yw x8)), (4, .int (yw x7)), (3, .ref x3), (2, .ref x1), (0, .ref v0), (1, .ref v1)]) (st' := [.int (105 : Int32), .ref v1, .int (15 : Int32), .int (yw x7), .ref v0]) rfl ?_
    refine xZ.eqs (lv2 := [(5, .int (yw x8)), (4, .int (yw x7)), (3, .ref x3), (2, .ref x1), (0, .ref v0), (1, .ref v1)]) (st2 := [.int (yw 105), .ref v1, .int (yw 15), .int (yw x7), .ref v0]) rfl (by simp only [yl_lit, yL_lit, yw_add, yw_sub, yw_mul, yw_neg, yl_add, yl_sub, yl_mul, cj_and, cj_or, cj_xor, cj_shl, cj_shr, cj_ushr, cj_div, cj_i2c, cj_i2b, cj_dc, ck_and, ck_or, ck_xor, ck_shl, ck_shr, ck_ushr, ck_i2l, ck_l2i, ck_cmp]) ?_
    refine xZ.callv (κ := oJ) (av := [.int (yw 105)]) (rest := [.int (yw 15), .int (yw x7), .ref v0]) (st' := fun x10 => [.int (yw x10), .int (yw 15), .int (yw x7), .ref v0]) (k0 := v1) (me := xm13) hP_13 rfl (Or.inl rfl) ⟨rfl, by decide⟩ rfl rfl (Nat.le_of_ble_eq_true rfl) (by decide) hP_12 (Nat.le_of_ble_eq_true rfl) (fun _ => rfl) (k_f_LDraw_n O f (d + 10) v1 105 M9) (fun x10 M10 => ?_)
    refine xZ.adv (me := xm13) hP_13 6 (pc' := 75) (lv' := [(5, .int (yw x8)), (4, .int (yw x7)), (3, .ref x3), (2, .ref x1), (0, .ref v0), (1, .ref v1)]) (st' := [.int (9 : Int32), .ref v1, .int (15 : Int32), .int ((yw 15) * ((yw x10) - (48 : Int32))), .int (yw x7), .ref v0]) rfl ?_
    refine xZ.eqs (lv2 := [(5, .int (yw x8)), (4, .int (yw x7)), (3, .ref x3), (2, .ref x1), (0, .ref v0), (1, .ref v1)]) (st2 := [.int (yw 9), .ref v1, .int (yw 15), .int (yw (15 * (x10 - 48))), .int (yw x7), .ref v0]) rfl (by simp only [yl_lit, yL_lit, yw_add, yw_sub, yw_mul, yw_neg, yl_add, yl_sub, yl_mul, cj_and, cj_or, cj_xor, cj_shl, cj_shr, cj_ushr, cj_div, cj_i2c, cj_i2b, cj_dc, ck_and, ck_or, ck_xor, ck_shl, ck_shr, ck_ushr, ck_i2l, ck_l2i, ck_cmp]) ?_
    refine xZ.callv (κ := oJ) (av := [.int (yw 9)]) (rest := [.int (yw 15), .int (yw (15 * (x10 - 48))), .int (yw x7), .ref v0]) (st' := fun x11 => [.int (yw x11), .int (yw 15), .int (yw (15 * (x10 - 48))), .int (yw x7), .ref v0]) (k0 := v1) (me := xm13) hP_13 rfl (Or.inl rfl) ⟨rfl, by decide⟩ rfl rfl (Nat.le_of_ble_eq_true rfl) (by decide) hP_12 (Nat.le_of_ble_eq_true rfl) (fun _ => rfl) (k_f_LDraw_n O f (d + 10) v1 9 M10) (fun x11 M11 => ?_)
    refine xZ.adv (me := xm13) hP_13 1 (pc' := 79) (lv' := [(5, .int (yw x8)), (4, .int (yw x7)), (3, .ref x3), (2, .ref x1), (0, .ref v0), (1, .ref v1)]) (st' := [.int ((yw 15) * (yw x11)), .int (yw (15 * (x10 - 48))), .int (yw x7), .ref v0]) rfl ?_
    refine xZ.eqs (lv2 := [(5, .int (yw x8)), (4, .int (yw x7)), (3, .ref x3), (2, .ref x1), (0, .ref v0), (1, .ref v1)]) (st2 := [.int (yw (15 * x11)), .int (yw (15 * (x10 - 48))), .int (yw x7), .ref v0]) rfl (by simp only [yl_lit, yL_lit, yw_add, yw_sub, yw_mul, yw_neg, yl_add, yl_sub, yl_mul, cj_and, cj_or, cj_xor, cj_shl, cj_shr, cj_ushr, cj_div, cj_i2c, cj_i2b, cj_dc, ck_and, ck_or, ck_xor, ck_shl, ck_shr, ck_ushr, ck_i2l, ck_l2i, ck_cmp]) ?_
    refine xZ.callv (κ := oJ) (av := [.int (yw x7), .int (yw (15 * (x10 - 48))), .int (yw (15 * x11))]) (rest := []) (st' := fun x12 => [.int (yw x12)]) (k0 := v0) (me := xm13) hP_13 rfl (Or.inl rfl) ⟨rfl, by decide⟩ rfl rfl (Nat.le_of_ble_eq_true rfl) (by decide) hP_19 (Nat.le_of_ble_eq_true rfl) (fun _ => rfl) (k_f_Calendarhall_setZone O f (d + 5) v0 x7 (15 * (x10 - 48)) (15 * x11) M11) (fun x12 M12 => ?_)
    refine xZ.adv (me := xm13) hP_13 1 (pc' := 83) (lv' := [(5, .int (yw x8)), (4, .int (yw x7)), (3, .ref x3), (2, .ref x1), (0, .ref v0), (1, .ref v1)]) (st' := []) rfl ?_
    exact xZ.sub (xsc (.tail _ (.tail _ (.tail _ (.tail _ (.head _))))) (xsc (.tail _ (.tail _ (.tail _ (.tail _ (.tail _ (.head _)))))) (xsc (.tail _ (.tail _ (.tail _ (.head _)))) (xsc (.tail _ (.tail _ (.head _))) (xsc (.tail _ (.head _)) (xsc (.head _) xsn)))))) (show ([5, 4, 3, 2, 0, 1] : List Nat).Nodup from by decide) (k_f_Law_areDays_83 O f d v0 v1 x1 x3 x7 x8 M12)
