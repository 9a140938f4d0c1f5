/-! ===== texts ===== -/
def f_Law_areMoved_161 (O : Nat → Option va_E) (f : Nat) (K85 : Nat → Nat → Int → Nat → Int → Int → Nat → Nat → Int → Int → xM → Option (Int × xM)) : Nat → Nat → Nat → Int → Nat → Int → Int → Nat → Nat → Int → Int → Int → xM → Option (Int × xM)
  | 0, _, _, _, _, _, _, _, _, _, _, _, _ => none
  | n + 1, v0, v1, v2, v3, v4, v5, v6, v7, v8, v9, v11, M =>
    if yw v4 ≤ yw v11 then (
      K85 v0 v1 v2 v3 v4 v5 v6 v7 v8 (v9 + 1) M
    ) else
    (aJ O M v3 v11).bind fun x1 =>
    (isO O M v0 12).bind fun _ =>
    xcl (f_Calendarhall_begin O f v0 v2 x1 M) fun x2 M1 =>
    (aJ O M1 v7 v11).bind fun x3 =>
    if yw x2 = yw x3 then (
      f_Law_areMoved_161 O f K85 n v0 v1 v2 v3 v4 v5 v6 v7 v8 v9 (v11 + 1) M1
    ) else
    some (0, M1)
set_option maxRecDepth 20000 in
theorem k_f_Law_areMoved_161 (O : Nat → Option va_E) (f d : Nat) (K85 : Nat → Nat → Int → Nat → Int → Int → Nat → Nat → Int → Int → xM → Option (Int × xM)) (hK85 : ∀ (v0 : Nat) (v1 : Nat) (v2 : Int) (v3 : Nat) (v4 : Int) (v5 : Int) (v6 : Nat) (v7 : Nat) (v8 : Int) (v9 : Int) M, xZ oJ O (d + 7) 97 85 [(0, .ref v0), (1, .ref v1), (2, .int (yw v2)), (3, .ref v3), (4, .int (yw v4)), (5, .int (yw v5)), (6, .ref v6), (7, .ref v7), (8, .int (yw v8)), (9, .int (yw v9))] [] M (K85 v0 v1 v2 v3 v4 v5 v6 v7 v8 v9 M)) : ∀ (n : Nat) (v0 : Nat) (v1 : Nat) (v2 : Int) (v3 : Nat) (v4 : Int) (v5 : Int) (v6 : Nat) (v7 : Nat) (v8 : Int) (v9 : Int) (v11 : Int) (M : xM), xZ oJ O (d + 7) 97 161 [(0, .ref v0), (1, .ref v1), (2, .int (yw v2)), (3, .ref v3), (4, .int (yw v4)), (5, .int (yw v5)), (6, .ref v6), (7, .ref v7), (8, .int (yw v8)), (9, .int (yw v9)), (11, .int (yw v11))] [] M (f_Law_areMoved_161 O f K85 n v0 v1 v2 v3 v4 v5 v6 v7 v8 v9 v11 M) := by
  intro n
  induction n with
  | zero =>
    intro v0 v1 v2 v3 v4 v5 v6 v7 v8 v9 v11 M
    exact xZ.no
  | succ n ih =>
    intro v0 v1 v2 v3 v4 v5 v6 v7 v8 v9 v11 M
    unfold f_Law_areMoved_161
    refine xZ.adv (me := xm97) hP_97 2 (pc' := 165) (lv' := [(0, .ref v0), (1, .ref v1), (2, .int (yw v2)), (3, .ref v3), (4, .int (yw v4)), (5, .int (yw v5)), (6, .ref v6), (7, .ref v7), (8, .int (yw v8)), (9, .int (yw v9)), (11, .int (yw v11))]) (st' := [.int (yw v4), .int (yw v11)]) rfl ?_
    refine xZ.jc_ge (me := xm97) hP_97 rfl (fun h1 => ?_) (fun h1 => ?_)
    · skip
      refine xZ.adv (me := xm97) hP_97 2 (pc' := 85) (lv' := [(9, .int ((yw v9) + (1 : Int32))), (0, .ref v0), (1, .ref v1), (2, .int (yw v2)), (3, .ref v3), (4, .int (yw v4)), (5, .int (yw v5)), (6, .ref v6), (7, .ref v7), (8, .int (yw v8)), (11, .int (yw v11))]) (st' := []) rfl ?_
      refine xZ.eqs (lv2 := [(9, .int (yw (v9 + 1))), (0, .ref v0), (1, .ref v1), (2, .int (yw v2)), (3, .ref v3), (4, .int (yw v4)), (5, .int (yw v5)), (6, .ref v6), (7, .ref v7), (8, .int (yw v8)), (11, .int (yw v11))]) (st2 := []) (by simp only [yl_lit, yL_lit, yw_add, yw_sub, yw_mul, yw_neg, yl_add, yl_sub, yl_mul, cj_and, cj_or, cj_xor, cj_shl, cj_shr, cj_ushr, cj_div, cj_i2c, cj_i2b, cj_dc, ck_and, ck_or, ck_xor, ck_shl, ck_shr, ck_ushr, ck_i2l, ck_l2i, ck_cmp]) rfl ?_
      exact xZ.sub (xsc (.tail _ (.head _)) (xsc (.tail _ (.tail _ (.head _))) (xsc (.tail _ (.tail _ (.tail _ (.head _)))) (xsc (.tail _ (.tail _ (.tail _ (.tail _ (.head _))))) (xsc (.tail _ (.tail _ (.tail _ (.tail _ (.tail _ (.head _)))))) (xsc (.tail _ (.tail _ (.tail _ (.tail _ (.tail _ (.tail _ (.head _))))))) (xsc (.tail _ (.tail _ (.tail _ (.tail _ (.tail _ (.tail _ (.tail _ (.head _)))))))) (xsc (.tail _ (.tail _ (.tail _ (.tail _ (.tail _ (.tail _ (.tail _ (.tail _ (.head _))))))))) (xsc (.tail _ (.tail _ (.tail _ (.tail _ (.tail _ (.tail _ (.tail _ (.tail _ (.tail _ (.head _)))))))))) (xsc (.head _) xsn)))))))))) (show ([9, 0, 1, 2, 3, 4, 5, 6, 7, 8, 11] : List Nat).Nodup from by decide) (hK85 v0 v1 v2 v3 v4 v5 v6 v7 v8 (v9 + 1) M)
    · skip
      refine xZ.adv (me := xm97) hP_97 4 (pc' := 173) (lv' := [(0, .ref v0), (1, .ref v1), (2, .int (yw v2)), (3, .ref v3), (4, .int (yw v4)), (5, .int (yw v5)), (6, .ref v6), (7, .ref v7), (8, .int (yw v8)), (9, .int (yw v9)), (11, .int (yw v11))]) (st' := [.int (yw v11), .ref v3, .int (yw v2), .ref v0]) rfl ?_
      refine xZ.k_aJ (me := xm97) hP_97 rfl (fun x1 => ?_)
      refine xZ.callv (κ := oJ) (av := [.int (yw v2), .int (yw x1)]) (rest := []) (st' := fun x2 => [.int (yw x2)]) (k0 := v0) (me := xm97) hP_97 rfl (Or.inl rfl) ⟨rfl, by decide⟩ rfl rfl (Nat.le_of_ble_eq_true rfl) (by decide) hP_98 (Nat.le_of_ble_eq_true rfl) (fun _ => rfl) (k_f_Calendarhall_begin O f (d + 1) v0 v2 x1 M) (fun x2 M1 => ?_)
      refine xZ.adv (me := xm97) hP_97 2 (pc' := 181) (lv' := [(0, .ref v0), (1, .ref v1), (2, .int (yw v2)), (3, .ref v3), (4, .int (yw v4)), (5, .int (yw v5)), (6, .ref v6), (7, .ref v7), (8, .int (yw v8)), (9, .int (yw v9)), (11, .int (yw v11))]) (st' := [.int (yw v11), .ref v7, .int (yw x2)]) rfl ?_
      refine xZ.k_aJ (me := xm97) hP_97 rfl (fun x3 => ?_)
      refine xZ.jc_eq (me := xm97) hP_97 rfl (fun h2 => ?_) (fun h2 => ?_)
      · skip
        refine xZ.adv (me := xm97) hP_97 2 (pc' := 161) (lv' := [(11, .int ((yw v11) + (1 : Int32))), (0, .ref v0), (1, .ref v1), (2, .int (yw v2)), (3, .ref v3), (4, .int (yw v4)), (5, .int (yw v5)), (6, .ref v6), (7, .ref v7), (8, .int (yw v8)), (9, .int (yw v9))]) (st' := []) rfl ?_
        refine xZ.eqs (lv2 := [(11, .int (yw (v11 + 1))), (0, .ref v0), (1, .ref v1), (2, .int (yw v2)), (3, .ref v3), (4, .int (yw v4)), (5, .int (yw v5)), (6, .ref v6), (7, .ref v7), (8, .int (yw v8)), (9, .int (yw v9))]) (st2 := []) (by simp only [yl_lit, yL_lit, yw_add, yw_sub, yw_mul, yw_neg, yl_add, yl_sub, yl_mul, cj_and, cj_or, cj_xor, cj_shl, cj_shr, cj_ushr, cj_div, cj_i2c, cj_i2b, cj_dc, ck_and, ck_or, ck_xor, ck_shl, ck_shr, ck_ushr, ck_i2l, ck_l2i, ck_cmp]) rfl ?_
        exact xZ.sub (xsc (.tail _ (.head _)) (xsc (.tail _ (.tail _ (.head _))) (xsc (.tail _ (.tail _ (.tail _ (.head _)))) (xsc (.tail _ (.tail _ (.tail _ (.tail _ (.head _))))) (xsc (.tail _ (.tail _ (.tail _ (.tail _ (.tail _ (.head _)))))) (xsc (.tail _ (.tail _ (.tail _ (.tail _ (.tail _ (.tail _ (.head _))))))) (xsc (.tail _ (.tail _ (.tail _ (.tail _ (.tail _ (.tail _ (.tail _ (.head _)))))))) (xsc (.tail _ (.tail _ (.tail _ (.tail _ (.tail _ (.tail _ (.tail _ (.tail _ (.head _))))))))) (xsc (.tail _ (.tail _ (.tail _ (.tail _ (.tail _ (.tail _ (.tail _ (.tail _ (.tail _ (.head _)))))))))) (xsc (.tail _ (.tail _ (.tail _ (.tail _ (.tail _ (.tail _ (.tail _ (.tail _ (.tail _ (.tail _ (.head _))))))))))) (xsc (.head _) xsn))))))))))) (show ([11, 0, 1, 2, 3, 4, 5, 6, 7, 8, 9] : List Nat).Nodup from by decide) (ih v0 v1 v2 v3 v4 v5 v6 v7 v8 v9 (v11 + 1) M1)
      · skip
        refine xZ.adv (me := xm97) hP_97 1 (pc' := 186) (lv' := [(0, .ref v0), (1, .ref v1), (2, .int (yw v2)), (3, .ref v3), (4, .int (yw v4)), (5, .int (yw v5)), (6, .ref v6), (7, .ref v7), (8, .int (yw v8)), (9, .int (yw v9)), (11, .int (yw v11))]) (st' := [.int (0 : Int32)]) rfl ?_
        refine xZ.eqs (lv2 := [(0, .ref v0), (1, .ref v1), (2, .int (yw v2)), (3, .ref v3), (4, .int (yw v4)), (5, .int (yw v5)), (6, .ref v6), (7, .ref v7), (8, .int (yw v8)), (9, .int (yw v9)), (11, .int (yw v11))]) (st2 := [.int (yw 0)]) rfl (by simp only [yl_lit, yL_lit, yw_add, yw_sub, yw_mul, yw_neg, yl_add, yl_sub, yl_mul, cj_and, cj_or, cj_xor, cj_shl, cj_shr, cj_ushr, cj_div, cj_i2c, cj_i2b, cj_dc, ck_and, ck_or, ck_xor, ck_shl, ck_shr, ck_ushr, ck_i2l, ck_l2i, ck_cmp]) ?_
        exact xZ.jrete (me := xm97) hP_97 rfl rfl rfl
def f_Law_areMoved_158 (O : Nat → Option va_E) (f : Nat) (K85 : Nat → Nat → Int → Nat → Int → Int → Nat → Nat → Int → Int → xM → Option (Int × xM)) (v0 : Nat) (v1 : Nat) (v2 : Int) (v3 : Nat) (v4 : Int) (v5 : Int) (v6 : Nat) (v7 : Nat) (v8 : Int) (v9 : Int) (M : xM) : Option (Int × xM) :=
  f_Law_areMoved_161 O f K85 f v0 v1 v2 v3 v4 v5 v6 v7 v8 v9 0 M
set_option maxRecDepth 20000 in
theorem k_f_Law_areMoved_158 (O : Nat → Option va_E) (f d : Nat) (K85 : Nat → Nat → Int → Nat → Int → Int → Nat → Nat → Int → Int → xM → Option (Int × xM)) (hK85 : ∀ (v0 : Nat) (v1 : Nat) (v2 : Int) (v3 : Nat) (v4 : Int) (v5 : Int) (v6 : Nat) (v7 : Nat) (v8 : Int) (v9 : Int) M, xZ oJ O (d + 7) 97 85 [(0, .ref v0), (1, .ref v1), (2, .int (yw v2)), (3, .ref v3), (4, .int (yw v4)), (5, .int (yw v5)), (6, .ref v6), (7, .ref v7), (8, .int (yw v8)), (9, .int (yw v9))] [] M (K85 v0 v1 v2 v3 v4 v5 v6 v7 v8 v9 M)) (v0 : Nat) (v1 : Nat) (v2 : Int) (v3 : Nat) (v4 : Int) (v5 : Int) (v6 : Nat) (v7 : Nat) (v8 : Int) (v9 : Int) (M : xM) : xZ oJ O (d + 7) 97 158 [(0, .ref v0), (1, .ref v1), (2, .int (yw v2)), (3, .ref v3), (4, .int (yw v4)), (5, .int (yw v5)), (6, .ref v6), (7, .ref v7), (8, .int (yw v8)), (9, .int (yw v9))] [] M (f_Law_areMoved_158 O f K85 v0 v1 v2 v3 v4 v5 v6 v7 v8 v9 M) := by
  unfold f_Law_areMoved_158
  refine xZ.adv (me := xm97) hP_97 2 (pc' := 161) (lv' := [(11, .int (0 : Int32)), (0, .ref v0), (1, .ref v1), (2, .int (yw v2)), (3, .ref v3), (4, .int (yw v4)), (5, .int (yw v5)), (6, .ref v6), (7, .ref v7), (8, .int (yw v8)), (9, .int (yw v9))]) (st' := []) rfl ?_
  refine xZ.eqs (lv2 := [(11, .int (yw 0)), (0, .ref v0), (1, .ref v1), (2, .int (yw v2)), (3, .ref v3), (4, .int (yw v4)), (5, .int (yw v5)), (6, .ref v6), (7, .ref v7), (8, .int (yw v8)), (9, .int (yw v9))]) (st2 := []) (by simp only [yl_lit, yL_lit, yw_add, yw_sub, yw_mul, yw_neg, yl_add, yl_sub, yl_mul, cj_and, cj_or, cj_xor, cj_shl, cj_shr, cj_ushr, cj_div, cj_i2c, cj_i2b, cj_dc, ck_and, ck_or, ck_xor, ck_shl, ck_shr, ck_ushr, ck_i2l, ck_l2i, ck_cmp]) rfl ?_
  exact xZ.sub (xsc (.tail _ (.head _)) (xsc (.tail _ (.tail _ (.head _))) (xsc (.tail _ (.tail _ (.tail _ (.head _)))) (xsc (.tail _ (.tail _ (.tail _ (.tail _ (.head _))))) (xsc (.tail _ (.tail _ (.tail _ (.tail _ (.tail _ (.head _)))))) (xsc (.tail _ (.tail _ (.tail _ (.tail _ (.tail _ (.tail _ (.head _))))))) (xsc (.tail _ (.tail _ (.tail _ (.tail _ (.tail _ (.tail _ (.tail _ (.head _)))))))) (xsc (.tail _ (.tail _ (.tail _ (.tail _ (.tail _ (.tail _ (.tail _ (.tail _ (.head _))))))))) (xsc (.tail _ (.tail _ (.tail _ (.tail _ (.tail _ (.tail _ (.tail _ (.tail _ (.tail _ (.head _)))))))))) (xsc (.tail _ (.tail _ (.tail _ (.tail _ (.tail _ (.tail _ (.tail _ (.tail _ (.tail _ (.tail _ (.head _))))))))))) (xsc (.head _) xsn))))))))))) (show ([11, 0, 1, 2, 3, 4, 5, 6, 7, 8, 9] : List Nat).Nodup from by decide) (k_f_Law_areMoved_161 O f d K85 hK85 f v0 v1 v2 v3 v4 v5 v6 v7 v8 v9 0 M)
def f_Law_areMoved_375 (O : Nat → Option va_E) (f : Nat) : Nat → Nat → Int → Nat → Int → Nat → Int → xM → Option (Int × xM)
  | 0, _, _, _, _, _, _, _ => none
  | n + 1, v0, v2, v3, v4, v6, v13, M =>
    if yw v4 ≤ yw v13 then (
      some (1, M)
    ) else
    (aJ O M v3 v13).bind fun x1 =>
    (isO O M v0 12).bind fun _ =>
    xcl (f_Calendarhall_begin O f v0 v2 x1 M) fun x2 M1 =>
    (aJ O M1 v6 v13).bind fun x3 =>
    if yw x2 = yw x3 then (
      f_Law_areMoved_375 O f n v0 v2 v3 v4 v6 (v13 + 1) M1
    ) else
    some (0, M1)
set_option maxRecDepth 20000 in
theorem k_f_Law_areMoved_375 (O : Nat → Option va_E) (f d : Nat) : ∀ (n : Nat) (v0 : Nat) (v2 : Int) (v3 : Nat) (v4 : Int) (v6 : Nat) (v13 : Int) (M : xM), xZ oJ O (d + 7) 97 375 [(0, .ref v0), (2, .int (yw v2)), (3, .ref v3), (4, .int (yw v4)), (6, .ref v6), (13, .int (yw v13))] [] M (f_Law_areMoved_375 O f n v0 v2 v3 v4 v6 v13 M) := by
  intro n
  induction n with
  | zero =>
    intro v0 v2 v3 v4 v6 v13 M
    exact xZ.no
  | succ n ih =>
    intro v0 v2 v3 v4 v6 v13 M
    unfold f_Law_areMoved_375
    refine xZ.adv (me := xm97) hP_97 2 (pc' := 379) (lv' := [(0, .ref v0), (2, .int (yw v2)), (3, .ref v3), (4, .int (yw v4)), (6, .ref v6), (13, .int (yw v13))]) (st' := [.int (yw v4), .int (yw v13)]) rfl ?_
    refine xZ.jc_ge (me := xm97) hP_97 rfl (fun h1 => ?_) (fun h1 => ?_)
    · skip
      refine xZ.adv (me := xm97) hP_97 1 (pc' := 408) (lv' := [(0, .ref v0), (2, .int (yw v2)), (3, .ref v3), (4, .int (yw v4)), (6, .ref v6), (13, .int (yw v13))]) (st' := [.int (1 : Int32)]) rfl ?_
      refine xZ.eqs (lv2 := [(0, .ref v0), (2, .int (yw v2)), (3, .ref v3), (4, .int (yw v4)), (6, .ref v6), (13, .int (yw v13))]) (st2 := [.int (yw 1)]) rfl (by simp only [yl_lit, yL_lit, yw_add, yw_sub, yw_mul, yw_neg, yl_add, yl_sub, yl_mul, cj_and, cj_or, cj_xor, cj_shl, cj_shr, cj_ushr, cj_div, cj_i2c, cj_i2b, cj_dc, ck_and, ck_or, ck_xor, ck_shl, ck_shr, ck_ushr, ck_i2l, ck_l2i, ck_cmp]) ?_
      exact xZ.jrete (me := xm97) hP_97 rfl rfl rfl
    · skip
      refine xZ.adv (me := xm97) hP_97 4 (pc' := 387) (lv' := [(0, .ref v0), (2, .int (yw v2)), (3, .ref v3), (4, .int (yw v4)), (6, .ref v6), (13, .int (yw v13))]) (st' := [.int (yw v13), .ref v3, .int (yw v2), .ref v0]) rfl ?_
      refine xZ.k_aJ (me := xm97) hP_97 rfl (fun x1 => ?_)
      refine xZ.callv (κ := oJ) (av := [.int (yw v2), .int (yw x1)]) (rest := []) (st' := fun x2 => [.int (yw x2)]) (k0 := v0) (me := xm97) hP_97 rfl (Or.inl rfl) ⟨rfl, by decide⟩ rfl rfl (Nat.le_of_ble_eq_true rfl) (by decide) hP_98 (Nat.le_of_ble_eq_true rfl) (fun _ => rfl) (k_f_Calendarhall_begin O f (d + 1) v0 v2 x1 M) (fun x2 M1 => ?_)
      refine xZ.adv (me := xm97) hP_97 2 (pc' := 395) (lv' := [(0, .ref v0), (2, .int (yw v2)), (3, .ref v3), (4, .int (yw v4)), (6, .ref v6), (13, .int (yw v13))]) (st' := [.int (yw v13), .ref v6, .int (yw x2)]) rfl ?_
      refine xZ.k_aJ (me := xm97) hP_97 rfl (fun x3 => ?_)
      refine xZ.jc_eq (me := xm97) hP_97 rfl (fun h2 => ?_) (fun h2 => ?_)
      · skip
        refine xZ.adv (me := xm97) hP_97 2 (pc' := 375) (lv' := [(13, .int ((yw v13) + (1 : Int32))), (0, .ref v0), (2, .int (yw v2)), (3, .ref v3), (4, .int (yw v4)), (6, .ref v6)]) (st' := []) rfl ?_
        refine xZ.eqs (lv2 := [(13, .int (yw (v13 + 1))), (0, .ref v0), (2, .int (yw v2)), (3, .ref v3), (4, .int (yw v4)), (6, .ref v6)]) (st2 := []) (by simp only [yl_lit, yL_lit, yw_add, yw_sub, yw_mul, yw_neg, yl_add, yl_sub, yl_mul, cj_and, cj_or, cj_xor, cj_shl, cj_shr, cj_ushr, cj_div, cj_i2c, cj_i2b, cj_dc, ck_and, ck_or, ck_xor, ck_shl, ck_shr, ck_ushr, ck_i2l, ck_l2i, ck_cmp]) rfl ?_
        exact xZ.sub (xsc (.tail _ (.head _)) (xsc (.tail _ (.tail _ (.head _))) (xsc (.tail _ (.tail _ (.tail _ (.head _)))) (xsc (.tail _ (.tail _ (.tail _ (.tail _ (.head _))))) (xsc (.tail _ (.tail _ (.tail _ (.tail _ (.tail _ (.head _)))))) (xsc (.head _) xsn)))))) (show ([13, 0, 2, 3, 4, 6] : List Nat).Nodup from by decide) (ih v0 v2 v3 v4 v6 (v13 + 1) M1)
      · skip
        refine xZ.adv (me := xm97) hP_97 1 (pc' := 400) (lv' := [(0, .ref v0), (2, .int (yw v2)), (3, .ref v3), (4, .int (yw v4)), (6, .ref v6), (13, .int (yw v13))]) (st' := [.int (0 : Int32)]) rfl ?_
        refine xZ.eqs (lv2 := [(0, .ref v0), (2, .int (yw v2)), (3, .ref v3), (4, .int (yw v4)), (6, .ref v6), (13, .int (yw v13))]) (st2 := [.int (yw 0)]) rfl (by simp only [yl_lit, yL_lit, yw_add, yw_sub, yw_mul, yw_neg, yl_add, yl_sub, yl_mul, cj_and, cj_or, cj_xor, cj_shl, cj_shr, cj_ushr, cj_div, cj_i2c, cj_i2b, cj_dc, ck_and, ck_or, ck_xor, ck_shl, ck_shr, ck_ushr, ck_i2l, ck_l2i, ck_cmp]) ?_
        exact xZ.jrete (me := xm97) hP_97 rfl rfl rfl
def f_Law_areMoved_354 (O : Nat → Option va_E) (f : Nat) : Nat → Nat → Int → Nat → Int → Nat → Int → Int → xM → Option (Int × xM)
  | 0, _, _, _, _, _, _, _, _ => none
  | n + 1, v0, v2, v3, v4, v6, v8, v13, M =>
    if yw v8 ≤ yw v13 then (
      f_Law_areMoved_375 O f f v0 v2 v3 v4 v6 0 M
    ) else
    (isO O M v0 12).bind fun _ =>
    xcl (f_Calendarhall_undo O f v0 M) fun x1 M1 =>
    f_Law_areMoved_354 O f n v0 v2 v3 v4 v6 v8 (v13 + 1) M1
set_option maxRecDepth 20000 in
theorem k_f_Law_areMoved_354 (O : Nat → Option va_E) (f d : Nat) : ∀ (n : Nat) (v0 : Nat) (v2 : Int) (v3 : Nat) (v4 : Int) (v6 : Nat) (v8 : Int) (v13 : Int) (M : xM), xZ oJ O (d + 7) 97 354 [(0, .ref v0), (2, .int (yw v2)), (3, .ref v3), (4, .int (yw v4)), (6, .ref v6), (8, .int (yw v8)), (13, .int (yw v13))] [] M (f_Law_areMoved_354 O f n v0 v2 v3 v4 v6 v8 v13 M) := by
  intro n
  induction n with
  | zero =>
    intro v0 v2 v3 v4 v6 v8 v13 M
    exact xZ.no
  | succ n ih =>
    intro v0 v2 v3 v4 v6 v8 v13 M
    unfold f_Law_areMoved_354
    refine xZ.adv (me := xm97) hP_97 2 (pc' := 358) (lv' := [(0, .ref v0), (2, .int (yw v2)), (3, .ref v3), (4, .int (yw v4)), (6, .ref v6), (8, .int (yw v8)), (13, .int (yw v13))]) (st' := [.int (yw v8), .int (yw v13)]) rfl ?_
    refine xZ.jc_ge (me := xm97) hP_97 rfl (fun h1 => ?_) (fun h1 => ?_)
    · skip
      refine xZ.adv (me := xm97) hP_97 2 (pc' := 375) (lv' := [(13, .int (0 : Int32)), (0, .ref v0), (2, .int (yw v2)), (3, .ref v3), (4, .int (yw v4)), (6, .ref v6), (8, .int (yw v8))]) (st' := []) rfl ?_
      refine xZ.eqs (lv2 := [(13, .int (yw 0)), (0, .ref v0), (2, .int (yw v2)), (3, .ref v3), (4, .int (yw v4)), (6, .ref v6), (8, .int (yw v8))]) (st2 := []) (by simp only [yl_lit, yL_lit, yw_add, yw_sub, yw_mul, yw_neg, yl_add, yl_sub, yl_mul, cj_and, cj_or, cj_xor, cj_shl, cj_shr, cj_ushr, cj_div, cj_i2c, cj_i2b, cj_dc, ck_and, ck_or, ck_xor, ck_shl, ck_shr, ck_ushr, ck_i2l, ck_l2i, ck_cmp]) rfl ?_
      exact xZ.sub (xsc (.tail _ (.head _)) (xsc (.tail _ (.tail _ (.head _))) (xsc (.tail _ (.tail _ (.tail _ (.head _)))) (xsc (.tail _ (.tail _ (.tail _ (.tail _ (.head _))))) (xsc (.tail _ (.tail _ (.tail _ (.tail _ (.tail _ (.head _)))))) (xsc (.head _) xsn)))))) (show ([13, 0, 2, 3, 4, 6, 8] : List Nat).Nodup from by decide) (k_f_Law_areMoved_375 O f d f v0 v2 v3 v4 v6 0 M)
    · skip
      refine xZ.adv (me := xm97) hP_97 1 (pc' := 362) (lv' := [(0, .ref v0), (2, .int (yw v2)), (3, .ref v3), (4, .int (yw v4)), (6, .ref v6), (8, .int (yw v8)), (13, .int (yw v13))]) (st' := [.ref v0]) rfl ?_
      refine xZ.callv (κ := oJ) (av := []) (rest := []) (st' := fun x1 => [.int (yw x1)]) (k0 := v0) (me := xm97) hP_97 rfl (Or.inl rfl) ⟨rfl, by decide⟩ rfl rfl (Nat.le_of_ble_eq_true rfl) (by decide) hP_124 (Nat.le_of_ble_eq_true rfl) (fun _ => rfl) (k_f_Calendarhall_undo O f (d + 2) v0 M) (fun x1 M1 => ?_)
      refine xZ.adv (me := xm97) hP_97 3 (pc' := 354) (lv' := [(13, .int ((yw v13) + (1 : Int32))), (0, .ref v0), (2, .int (yw v2)), (3, .ref v3), (4, .int (yw v4)), (6, .ref v6), (8, .int (yw v8))]) (st' := []) rfl ?_
      refine xZ.eqs (lv2 := [(13, .int (yw (v13 + 1))), (0, .ref v0), (2, .int (yw v2)), (3, .ref v3), (4, .int (yw v4)), (6, .ref v6), (8, .int (yw v8))]) (st2 := []) (by simp only [yl_lit, yL_lit, yw_add, yw_sub, yw_mul, yw_neg, yl_add, yl_sub, yl_mul, cj_and, cj_or, cj_xor, cj_shl, cj_shr, cj_ushr, cj_div, cj_i2c, cj_i2b, cj_dc, ck_and, ck_or, ck_xor, ck_shl, ck_shr, ck_ushr, ck_i2l, ck_l2i, ck_cmp]) rfl ?_
      exact xZ.sub (xsc (.tail _ (.head _)) (xsc (.tail _ (.tail _ (.head _))) (xsc (.tail _ (.tail _ (.tail _ (.head _)))) (xsc (.tail _ (.tail _ (.tail _ (.tail _ (.head _))))) (xsc (.tail _ (.tail _ (.tail _ (.tail _ (.tail _ (.head _)))))) (xsc (.tail _ (.tail _ (.tail _ (.tail _ (.tail _ (.tail _ (.head _))))))) (xsc (.head _) xsn))))))) (show ([13, 0, 2, 3, 4, 6, 8] : List Nat).Nodup from by decide) (ih v0 v2 v3 v4 v6 v8 (v13 + 1) M1)
def f_Law_areMoved_351 (O : Nat → Option va_E) (f : Nat) (v0 : Nat) (v2 : Int) (v3 : Nat) (v4 : Int) (v6 : Nat) (v8 : Int) (M : xM) : Option (Int × xM) :=
  f_Law_areMoved_354 O f f v0 v2 v3 v4 v6 v8 0 M
set_option maxRecDepth 20000 in
theorem k_f_Law_areMoved_351 (O : Nat → Option va_E) (f d : Nat) (v0 : Nat) (v2 : Int) (v3 : Nat) (v4 : Int) (v6 : Nat) (v8 : Int) (M : xM) : xZ oJ O (d + 7) 97 351 [(0, .ref v0), (2, .int (yw v2)), (3, .ref v3), (4, .int (yw v4)), (6, .ref v6), (8, .int (yw v8))] [] M (f_Law_areMoved_351 O f v0 v2 v3 v4 v6 v8 M) := by
  unfold f_Law_areMoved_351
  refine xZ.adv (me := xm97) hP_97 2 (pc' := 354) (lv' := [(13, .int (0 : Int32)), (0, .ref v0), (2, .int (yw v2)), (3, .ref v3), (4, .int (yw v4)), (6, .ref v6), (8, .int (yw v8))]) (st' := []) rfl ?_
  refine xZ.eqs (lv2 := [(13, .int (yw 0)), (0, .ref v0), (2, .int (yw v2)), (3, .ref v3), (4, .int (yw v4)), (6, .ref v6), (8, .int (yw v8))]) (st2 := []) (by simp only [yl_lit, yL_lit, yw_add, yw_sub, yw_mul, yw_neg, yl_add, yl_sub, yl_mul, cj_and, cj_or, cj_xor, cj_shl, cj_shr, cj_ushr, cj_div, cj_i2c, cj_i2b, cj_dc, ck_and, ck_or, ck_xor, ck_shl, ck_shr, ck_ushr, ck_i2l, ck_l2i, ck_cmp]) rfl ?_
  exact xZ.sub (xsc (.tail _ (.head _)) (xsc (.tail _ (.tail _ (.head _))) (xsc (.tail _ (.tail _ (.tail _ (.head _)))) (xsc (.tail _ (.tail _ (.tail _ (.tail _ (.head _))))) (xsc (.tail _ (.tail _ (.tail _ (.tail _ (.tail _ (.head _)))))) (xsc (.tail _ (.tail _ (.tail _ (.tail _ (.tail _ (.tail _ (.head _))))))) (xsc (.head _) xsn))))))) (show ([13, 0, 2, 3, 4, 6, 8] : List Nat).Nodup from by decide) (k_f_Law_areMoved_354 O f d f v0 v2 v3 v4 v6 v8 0 M)
def f_Law_areMoved_329 (O : Nat → Option va_E) (f : Nat) (v0 : Nat) (v2 : Int) (v3 : Nat) (v4 : Int) (v6 : Nat) (v8 : Int) (v9 : Int) (v12 : Int) (M : xM) : Option (Int × xM) :=
  if yw v12 = yw (-1) then (
    f_Law_areMoved_351 O f v0 v2 v3 v4 v6 v8 M
  ) else
  (isO O M v0 12).bind fun _ =>
  xcl (f_Calendarhall_nextDate O f v0 v2 v9 M) fun x1 M1 =>
  (aJ O M1 v3 v12).bind fun x2 =>
  if yw x1 = yw x2 then (
    f_Law_areMoved_351 O f v0 v2 v3 v4 v6 v8 M1
  ) else
  some (0, M1)
set_option maxRecDepth 20000 in
theorem k_f_Law_areMoved_329 (O : Nat → Option va_E) (f d : Nat) (v0 : Nat) (v2 : Int) (v3 : Nat) (v4 : Int) (v6 : Nat) (v8 : Int) (v9 : Int) (v12 : Int) (M : xM) : xZ oJ O (d + 7) 97 329 [(0, .ref v0), (2, .int (yw v2)), (3, .ref v3), (4, .int (yw v4)), (6, .ref v6), (8, .int (yw v8)), (9, .int (yw v9)), (12, .int (yw v12))] [] M (f_Law_areMoved_329 O f v0 v2 v3 v4 v6 v8 v9 v12 M) := by
  unfold f_Law_areMoved_329
  refine xZ.adv (me := xm97) hP_97 2 (pc' := 332) (lv' := [(0, .ref v0), (2, .int (yw v2)), (3, .ref v3), (4, .int (yw v4)), (6, .ref v6), (8, .int (yw v8)), (9, .int (yw v9)), (12, .int (yw v12))]) (st' := [.int (-1 : Int32), .int (yw v12)]) rfl ?_
  refine xZ.eqs (lv2 := [(0, .ref v0), (2, .int (yw v2)), (3, .ref v3), (4, .int (yw v4)), (6, .ref v6), (8, .int (yw v8)), (9, .int (yw v9)), (12, .int (yw v12))]) (st2 := [.int (yw (-1)), .int (yw v12)]) rfl (by simp only [yl_lit, yL_lit, yw_add, yw_sub, yw_mul, yw_neg, yl_add, yl_sub, yl_mul, cj_and, cj_or, cj_xor, cj_shl, cj_shr, cj_ushr, cj_div, cj_i2c, cj_i2b, cj_dc, ck_and, ck_or, ck_xor, ck_shl, ck_shr, ck_ushr, ck_i2l, ck_l2i, ck_cmp]) ?_
  refine xZ.jc_eq (me := xm97) hP_97 rfl (fun h1 => ?_) (fun h1 => ?_)
  · skip
    exact xZ.sub (xsc (.head _) (xsc (.tail _ (.head _)) (xsc (.tail _ (.tail _ (.head _))) (xsc (.tail _ (.tail _ (.tail _ (.head _)))) (xsc (.tail _ (.tail _ (.tail _ (.tail _ (.head _))))) (xsc (.tail _ (.tail _ (.tail _ (.tail _ (.tail _ (.head _)))))) xsn)))))) (show ([0, 2, 3, 4, 6, 8, 9, 12] : List Nat).Nodup from by decide) (k_f_Law_areMoved_351 O f d v0 v2 v3 v4 v6 v8 M)
  · skip
    refine xZ.adv (me := xm97) hP_97 3 (pc' := 339) (lv' := [(0, .ref v0), (2, .int (yw v2)), (3, .ref v3), (4, .int (yw v4)), (6, .ref v6), (8, .int (yw v8)), (9, .int (yw v9)), (12, .int (yw v12))]) (st' := [.int (yw v9), .int (yw v2), .ref v0]) rfl ?_
    refine xZ.callv (κ := oJ) (av := [.int (yw v2), .int (yw v9)]) (rest := []) (st' := fun x1 => [.int (yw x1)]) (k0 := v0) (me := xm97) hP_97 rfl (Or.inl rfl) ⟨rfl, by decide⟩ rfl rfl (Nat.le_of_ble_eq_true rfl) (by decide) hP_120 (Nat.le_of_ble_eq_true rfl) (fun _ => rfl) (k_f_Calendarhall_nextDate O f (d + 0) v0 v2 v9 M) (fun x1 M1 => ?_)
    refine xZ.adv (me := xm97) hP_97 2 (pc' := 345) (lv' := [(0, .ref v0), (2, .int (yw v2)), (3, .ref v3), (4, .int (yw v4)), (6, .ref v6), (8, .int (yw v8)), (9, .int (yw v9)), (12, .int (yw v12))]) (st' := [.int (yw v12), .ref v3, .int (yw x1)]) rfl ?_
    refine xZ.k_aJ (me := xm97) hP_97 rfl (fun x2 => ?_)
    refine xZ.jc_eq (me := xm97) hP_97 rfl (fun h2 => ?_) (fun h2 => ?_)
    · skip
      exact xZ.sub (xsc (.head _) (xsc (.tail _ (.head _)) (xsc (.tail _ (.tail _ (.head _))) (xsc (.tail _ (.tail _ (.tail _ (.head _)))) (xsc (.tail _ (.tail _ (.tail _ (.tail _ (.head _))))) (xsc (.tail _ (.tail _ (.tail _ (.tail _ (.tail _ (.head _)))))) xsn)))))) (show ([0, 2, 3, 4, 6, 8, 9, 12] : List Nat).Nodup from by decide) (k_f_Law_areMoved_351 O f d v0 v2 v3 v4 v6 v8 M1)
    · skip
      refine xZ.adv (me := xm97) hP_97 1 (pc' := 350) (lv' := [(0, .ref v0), (2, .int (yw v2)), (3, .ref v3), (4, .int (yw v4)), (6, .ref v6), (8, .int (yw v8)), (9, .int (yw v9)), (12, .int (yw v12))]) (st' := [.int (0 : Int32)]) rfl ?_
      refine xZ.eqs (lv2 := [(0, .ref v0), (2, .int (yw v2)), (3, .ref v3), (4, .int (yw v4)), (6, .ref v6), (8, .int (yw v8)), (9, .int (yw v9)), (12, .int (yw v12))]) (st2 := [.int (yw 0)]) rfl (by simp only [yl_lit, yL_lit, yw_add, yw_sub, yw_mul, yw_neg, yl_add, yl_sub, yl_mul, cj_and, cj_or, cj_xor, cj_shl, cj_shr, cj_ushr, cj_div, cj_i2c, cj_i2b, cj_dc, ck_and, ck_or, ck_xor, ck_shl, ck_shr, ck_ushr, ck_i2l, ck_l2i, ck_cmp]) ?_
      exact xZ.jrete (me := xm97) hP_97 rfl rfl rfl
def f_Law_areMoved_298 (O : Nat → Option va_E) (f : Nat) (K246 : Nat → Int → Nat → Int → Nat → Nat → Int → Int → Int → Int → Int → Int → xM → Option (Int × xM)) (v0 : Nat) (v2 : Int) (v3 : Nat) (v4 : Int) (v6 : Nat) (v7 : Nat) (v8 : Int) (v9 : Int) (v10 : Int) (v11 : Int) (v13 : Int) (M : xM) : Option (Int × xM) :=
  K246 v0 v2 v3 v4 v6 v7 v8 v9 v10 v11 v13 (v13 + 1) M
set_option maxRecDepth 20000 in
theorem k_f_Law_areMoved_298 (O : Nat → Option va_E) (f d : Nat) (K246 : Nat → Int → Nat → Int → Nat → Nat → Int → Int → Int → Int → Int → Int → xM → Option (Int × xM)) (hK246 : ∀ (v0 : Nat) (v2 : Int) (v3 : Nat) (v4 : Int) (v6 : Nat) (v7 : Nat) (v8 : Int) (v9 : Int) (v10 : Int) (v11 : Int) (v12 : Int) (v13 : Int) M, xZ oJ O (d + 7) 97 246 [(0, .ref v0), (2, .int (yw v2)), (3, .ref v3), (4, .int (yw v4)), (6, .ref v6), (7, .ref v7), (8, .int (yw v8)), (9, .int (yw v9)), (10, .int (yw v10)), (11, .int (yw v11)), (12, .int (yw v12)), (13, .int (yw v13))] [] M (K246 v0 v2 v3 v4 v6 v7 v8 v9 v10 v11 v12 v13 M)) (v0 : Nat) (v2 : Int) (v3 : Nat) (v4 : Int) (v6 : Nat) (v7 : Nat) (v8 : Int) (v9 : Int) (v10 : Int) (v11 : Int) (v13 : Int) (M : xM) : xZ oJ O (d + 7) 97 298 [(0, .ref v0), (2, .int (yw v2)), (3, .ref v3), (4, .int (yw v4)), (6, .ref v6), (7, .ref v7), (8, .int (yw v8)), (9, .int (yw v9)), (10, .int (yw v10)), (11, .int (yw v11)), (13, .int (yw v13))] [] M (f_Law_areMoved_298 O f K246 v0 v2 v3 v4 v6 v7 v8 v9 v10 v11 v13 M) := by
  unfold f_Law_areMoved_298
  refine xZ.adv (me := xm97) hP_97 4 (pc' := 246) (lv' := [(13, .int ((yw v13) + (1 : Int32))), (12, .int (yw v13)), (0, .ref v0), (2, .int (yw v2)), (3, .ref v3), (4, .int (yw v4)), (6, .ref v6), (7, .ref v7), (8, .int (yw v8)), (9, .int (yw v9)), (10, .int (yw v10)), (11, .int (yw v11))]) (st' := []) rfl ?_
  refine xZ.eqs (lv2 := [(13, .int (yw (v13 + 1))), (12, .int (yw v13)), (0, .ref v0), (2, .int (yw v2)), (3, .ref v3), (4, .int (yw v4)), (6, .ref v6), (7, .ref v7), (8, .int (yw v8)), (9, .int (yw v9)), (10, .int (yw v10)), (11, .int (yw v11))]) (st2 := []) (by simp only [yl_lit, yL_lit, yw_add, yw_sub, yw_mul, yw_neg, yl_add, yl_sub, yl_mul, cj_and, cj_or, cj_xor, cj_shl, cj_shr, cj_ushr, cj_div, cj_i2c, cj_i2b, cj_dc, ck_and, ck_or, ck_xor, ck_shl, ck_shr, ck_ushr, ck_i2l, ck_l2i, ck_cmp]) rfl ?_
  exact xZ.sub (xsc (.tail _ (.tail _ (.head _))) (xsc (.tail _ (.tail _ (.tail _ (.head _)))) (xsc (.tail _ (.tail _ (.tail _ (.tail _ (.head _))))) (xsc (.tail _ (.tail _ (.tail _ (.tail _ (.tail _ (.head _)))))) (xsc (.tail _ (.tail _ (.tail _ (.tail _ (.tail _ (.tail _ (.head _))))))) (xsc (.tail _ (.tail _ (.tail _ (.tail _ (.tail _ (.tail _ (.tail _ (.head _)))))))) (xsc (.tail _ (.tail _ (.tail _ (.tail _ (.tail _ (.tail _ (.tail _ (.tail _ (.head _))))))))) (xsc (.tail _ (.tail _ (.tail _ (.tail _ (.tail _ (.tail _ (.tail _ (.tail _ (.tail _ (.head _)))))))))) (xsc (.tail _ (.tail _ (.tail _ (.tail _ (.tail _ (.tail _ (.tail _ (.tail _ (.tail _ (.tail _ (.head _))))))))))) (xsc (.tail _ (.tail _ (.tail _ (.tail _ (.tail _ (.tail _ (.tail _ (.tail _ (.tail _ (.tail _ (.tail _ (.head _)))))))))))) (xsc (.tail _ (.head _)) (xsc (.head _) xsn)))))))))))) (show ([13, 12, 0, 2, 3, 4, 6, 7, 8, 9, 10, 11] : List Nat).Nodup from by decide) (hK246 v0 v2 v3 v4 v6 v7 v8 v9 v10 v11 v13 (v13 + 1) M)
def f_Law_areMoved_246 (O : Nat → Option va_E) (f : Nat) : Nat → Nat → Int → Nat → Int → Nat → Nat → Int → Int → Int → Int → Int → Int → xM → Option (Int × xM)
  | 0, _, _, _, _, _, _, _, _, _, _, _, _, _ => none
  | n + 1, v0, v2, v3, v4, v6, v7, v8, v9, v10, v11, v12, v13, M =>
    if yw v4 ≤ yw v13 then (
      if yw v10 ≤ yw v9 then (
        f_Law_areMoved_329 O f v0 v2 v3 v4 v6 v8 v9 v12 M
      ) else
      (isO O M v0 12).bind fun _ =>
      xcl (f_Calendarhall_countDates O f v0 v2 v9 v10 M) fun x1 M1 =>
      if yw v11 = yw x1 then (
        f_Law_areMoved_329 O f v0 v2 v3 v4 v6 v8 v9 v12 M1
      ) else
      some (0, M1)
    ) else
    (aJ O M v7 v13).bind fun x2 =>
    if yw x2 < yw v9 then (
      f_Law_areMoved_246 O f n v0 v2 v3 v4 v6 v7 v8 v9 v10 v11 v12 (v13 + 1) M
    ) else
    (aJ O M v7 v13).bind fun x3 =>
    if yw x3 < yw v10 then (
      if yw v12 = yw (-1) then (
        f_Law_areMoved_298 O f (f_Law_areMoved_246 O f n) v0 v2 v3 v4 v6 v7 v8 v9 v10 (v11 + 1) v13 M
      ) else
      (aJ O M v7 v13).bind fun x4 =>
      (aJ O M v7 v12).bind fun x5 =>
      if yw x5 ≤ yw x4 then (
        f_Law_areMoved_246 O f n v0 v2 v3 v4 v6 v7 v8 v9 v10 (v11 + 1) v12 (v13 + 1) M
      ) else
      f_Law_areMoved_298 O f (f_Law_areMoved_246 O f n) v0 v2 v3 v4 v6 v7 v8 v9 v10 (v11 + 1) v13 M
    ) else
    f_Law_areMoved_246 O f n v0 v2 v3 v4 v6 v7 v8 v9 v10 v11 v12 (v13 + 1) M
set_option maxRecDepth 20000 in
theorem k_f_Law_areMoved_246 (O : Nat → Option va_E) (f d : Nat) : ∀ (n : Nat) (v0 : Nat) (v2 : Int) (v3 : Nat) (v4 : Int) (v6 : Nat) (v7 : Nat) (v8 : Int) (v9 : Int) (v10 : Int) (v11 : Int) (v12 : Int) (v13 : Int) (M : xM), xZ oJ O (d + 7) 97 246 [(0, .ref v0), (2, .int (yw v2)), (3, .ref v3), (4, .int (yw v4)), (6, .ref v6), (7, .ref v7), (8, .int (yw v8)), (9, .int (yw v9)), (10, .int (yw v10)), (11, .int (yw v11)), (12, .int (yw v12)), (13, .int (yw v13))] [] M (f_Law_areMoved_246 O f n v0 v2 v3 v4 v6 v7 v8 v9 v10 v11 v12 v13 M) := by
  intro n
  induction n with
  | zero =>
    intro v0 v2 v3 v4 v6 v7 v8 v9 v10 v11 v12 v13 M
    exact xZ.no
  | succ n ih =>
    intro v0 v2 v3 v4 v6 v7 v8 v9 v10 v11 v12 v13 M
    unfold f_Law_areMoved_246
    refine xZ.adv (me := xm97) hP_97 2 (pc' := 250) (lv' := [(0, .ref v0), (2, .int (yw v2)), (3, .ref v3), (4, .int (yw v4)), (6, .ref v6), (7, .ref v7), (8, .int (yw v8)), (9, .int (yw v9)), (10, .int (yw v10)), (11, .int (yw v11)), (12, .int (yw v12)), (13, .int (yw v13))]) (st' := [.int (yw v4), .int (yw v13)]) rfl ?_
    refine xZ.jc_ge (me := xm97) hP_97 rfl (fun h1 => ?_) (fun h1 => ?_)
    · skip
      refine xZ.adv (me := xm97) hP_97 2 (pc' := 312) (lv' := [(0, .ref v0), (2, .int (yw v2)), (3, .ref v3), (4, .int (yw v4)), (6, .ref v6), (7, .ref v7), (8, .int (yw v8)), (9, .int (yw v9)), (10, .int (yw v10)), (11, .int (yw v11)), (12, .int (yw v12)), (13, .int (yw v13))]) (st' := [.int (yw v9), .int (yw v10)]) rfl ?_
      refine xZ.jc_le (me := xm97) hP_97 rfl (fun h2 => ?_) (fun h2 => ?_)
      · skip
        exact xZ.sub (xsc (.head _) (xsc (.tail _ (.head _)) (xsc (.tail _ (.tail _ (.head _))) (xsc (.tail _ (.tail _ (.tail _ (.head _)))) (xsc (.tail _ (.tail _ (.tail _ (.tail _ (.head _))))) (xsc (.tail _ (.tail _ (.tail _ (.tail _ (.tail _ (.tail _ (.head _))))))) (xsc (.tail _ (.tail _ (.tail _ (.tail _ (.tail _ (.tail _ (.tail _ (.head _)))))))) (xsc (.tail _ (.tail _ (.tail _ (.tail _ (.tail _ (.tail _ (.tail _ (.tail _ (.tail _ (.tail _ (.head _))))))))))) xsn)))))))) (show ([0, 2, 3, 4, 6, 7, 8, 9, 10, 11, 12, 13] : List Nat).Nodup from by decide) (k_f_Law_areMoved_329 O f d v0 v2 v3 v4 v6 v8 v9 v12 M)
      · skip
        refine xZ.adv (me := xm97) hP_97 5 (pc' := 323) (lv' := [(0, .ref v0), (2, .int (yw v2)), (3, .ref v3), (4, .int (yw v4)), (6, .ref v6), (7, .ref v7), (8, .int (yw v8)), (9, .int (yw v9)), (10, .int (yw v10)), (11, .int (yw v11)), (12, .int (yw v12)), (13, .int (yw v13))]) (st' := [.int (yw v10), .int (yw v9), .int (yw v2), .ref v0, .int (yw v11)]) rfl ?_
        refine xZ.callv (κ := oJ) (av := [.int (yw v2), .int (yw v9), .int (yw v10)]) (rest := [.int (yw v11)]) (st' := fun x1 => [.int (yw x1), .int (yw v11)]) (k0 := v0) (me := xm97) hP_97 rfl (Or.inl rfl) ⟨rfl, by decide⟩ rfl rfl (Nat.le_of_ble_eq_true rfl) (by decide) hP_113 (Nat.le_of_ble_eq_true rfl) (fun _ => rfl) (k_f_Calendarhall_countDates O f (d + 0) v0 v2 v9 v10 M) (fun x1 M1 => ?_)
        refine xZ.jc_ne (me := xm97) hP_97 rfl (fun h3 => ?_) (fun h3 => ?_)
        · skip
          exact xZ.sub (xsc (.head _) (xsc (.tail _ (.head _)) (xsc (.tail _ (.tail _ (.head _))) (xsc (.tail _ (.tail _ (.tail _ (.head _)))) (xsc (.tail _ (.tail _ (.tail _ (.tail _ (.head _))))) (xsc (.tail _ (.tail _ (.tail _ (.tail _ (.tail _ (.tail _ (.head _))))))) (xsc (.tail _ (.tail _ (.tail _ (.tail _ (.tail _ (.tail _ (.tail _ (.head _)))))))) (xsc (.tail _ (.tail _ (.tail _ (.tail _ (.tail _ (.tail _ (.tail _ (.tail _ (.tail _ (.tail _ (.head _))))))))))) xsn)))))))) (show ([0, 2, 3, 4, 6, 7, 8, 9, 10, 11, 12, 13] : List Nat).Nodup from by decide) (k_f_Law_areMoved_329 O f d v0 v2 v3 v4 v6 v8 v9 v12 M1)
        · skip
          refine xZ.adv (me := xm97) hP_97 1 (pc' := 350) (lv' := [(0, .ref v0), (2, .int (yw v2)), (3, .ref v3), (4, .int (yw v4)), (6, .ref v6), (7, .ref v7), (8, .int (yw v8)), (9, .int (yw v9)), (10, .int (yw v10)), (11, .int (yw v11)), (12, .int (yw v12)), (13, .int (yw v13))]) (st' := [.int (0 : Int32)]) rfl ?_
          refine xZ.eqs (lv2 := [(0, .ref v0), (2, .int (yw v2)), (3, .ref v3), (4, .int (yw v4)), (6, .ref v6), (7, .ref v7), (8, .int (yw v8)), (9, .int (yw v9)), (10, .int (yw v10)), (11, .int (yw v11)), (12, .int (yw v12)), (13, .int (yw v13))]) (st2 := [.int (yw 0)]) rfl (by simp only [yl_lit, yL_lit, yw_add, yw_sub, yw_mul, yw_neg, yl_add, yl_sub, yl_mul, cj_and, cj_or, cj_xor, cj_shl, cj_shr, cj_ushr, cj_div, cj_i2c, cj_i2b, cj_dc, ck_and, ck_or, ck_xor, ck_shl, ck_shr, ck_ushr, ck_i2l, ck_l2i, ck_cmp]) ?_
          exact xZ.jrete (me := xm97) hP_97 rfl rfl rfl
    · skip
      refine xZ.adv (me := xm97) hP_97 2 (pc' := 257) (lv' := [(0, .ref v0), (2, .int (yw v2)), (3, .ref v3), (4, .int (yw v4)), (6, .ref v6), (7, .ref v7), (8, .int (yw v8)), (9, .int (yw v9)), (10, .int (yw v10)), (11, .int (yw v11)), (12, .int (yw v12)), (13, .int (yw v13))]) (st' := [.int (yw v13), .ref v7]) rfl ?_
      refine xZ.k_aJ (me := xm97) hP_97 rfl (fun x2 => ?_)
      refine xZ.adv (me := xm97) hP_97 1 (pc' := 260) (lv' := [(0, .ref v0), (2, .int (yw v2)), (3, .ref v3), (4, .int (yw v4)), (6, .ref v6), (7, .ref v7), (8, .int (yw v8)), (9, .int (yw v9)), (10, .int (yw v10)), (11, .int (yw v11)), (12, .int (yw v12)), (13, .int (yw v13))]) (st' := [.int (yw v9), .int (yw x2)]) rfl ?_
      refine xZ.jc_lt (me := xm97) hP_97 rfl (fun h4 => ?_) (fun h4 => ?_)
      · skip
        refine xZ.adv (me := xm97) hP_97 2 (pc' := 246) (lv' := [(13, .int ((yw v13) + (1 : Int32))), (0, .ref v0), (2, .int (yw v2)), (3, .ref v3), (4, .int (yw v4)), (6, .ref v6), (7, .ref v7), (8, .int (yw v8)), (9, .int (yw v9)), (10, .int (yw v10)), (11, .int (yw v11)), (12, .int (yw v12))]) (st' := []) rfl ?_
        refine xZ.eqs (lv2 := [(13, .int (yw (v13 + 1))), (0, .ref v0), (2, .int (yw v2)), (3, .ref v3), (4, .int (yw v4)), (6, .ref v6), (7, .ref v7), (8, .int (yw v8)), (9, .int (yw v9)), (10, .int (yw v10)), (11, .int (yw v11)), (12, .int (yw v12))]) (st2 := []) (by simp only [yl_lit, yL_lit, yw_add, yw_sub, yw_mul, yw_neg, yl_add, yl_sub, yl_mul, cj_and, cj_or, cj_xor, cj_shl, cj_shr, cj_ushr, cj_div, cj_i2c, cj_i2b, cj_dc, ck_and, ck_or, ck_xor, ck_shl, ck_shr, ck_ushr, ck_i2l, ck_l2i, ck_cmp]) rfl ?_
        exact xZ.sub (xsc (.tail _ (.head _)) (xsc (.tail _ (.tail _ (.head _))) (xsc (.tail _ (.tail _ (.tail _ (.head _)))) (xsc (.tail _ (.tail _ (.tail _ (.tail _ (.head _))))) (xsc (.tail _ (.tail _ (.tail _ (.tail _ (.tail _ (.head _)))))) (xsc (.tail _ (.tail _ (.tail _ (.tail _ (.tail _ (.tail _ (.head _))))))) (xsc (.tail _ (.tail _ (.tail _ (.tail _ (.tail _ (.tail _ (.tail _ (.head _)))))))) (xsc (.tail _ (.tail _ (.tail _ (.tail _ (.tail _ (.tail _ (.tail _ (.tail _ (.head _))))))))) (xsc (.tail _ (.tail _ (.tail _ (.tail _ (.tail _ (.tail _ (.tail _ (.tail _ (.tail _ (.head _)))))))))) (xsc (.tail _ (.tail _ (.tail _ (.tail _ (.tail _ (.tail _ (.tail _ (.tail _ (.tail _ (.tail _ (.head _))))))))))) (xsc (.tail _ (.tail _ (.tail _ (.tail _ (.tail _ (.tail _ (.tail _ (.tail _ (.tail _ (.tail _ (.tail _ (.head _)))))))))))) (xsc (.head _) xsn)))))))))))) (show ([13, 0, 2, 3, 4, 6, 7, 8, 9, 10, 11, 12] : List Nat).Nodup from by decide) (ih v0 v2 v3 v4 v6 v7 v8 v9 v10 v11 v12 (v13 + 1) M)
      · skip
        refine xZ.adv (me := xm97) hP_97 2 (pc' := 267) (lv' := [(0, .ref v0), (2, .int (yw v2)), (3, .ref v3), (4, .int (yw v4)), (6, .ref v6), (7, .ref v7), (8, .int (yw v8)), (9, .int (yw v9)), (10, .int (yw v10)), (11, .int (yw v11)), (12, .int (yw v12)), (13, .int (yw v13))]) (st' := [.int (yw v13), .ref v7]) rfl ?_
        refine xZ.k_aJ (me := xm97) hP_97 rfl (fun x3 => ?_)
        refine xZ.adv (me := xm97) hP_97 1 (pc' := 270) (lv' := [(0, .ref v0), (2, .int (yw v2)), (3, .ref v3), (4, .int (yw v4)), (6, .ref v6), (7, .ref v7), (8, .int (yw v8)), (9, .int (yw v9)), (10, .int (yw v10)), (11, .int (yw v11)), (12, .int (yw v12)), (13, .int (yw v13))]) (st' := [.int (yw v10), .int (yw x3)]) rfl ?_
        refine xZ.jc_lt (me := xm97) hP_97 rfl (fun h5 => ?_) (fun h5 => ?_)
        · skip
          refine xZ.adv (me := xm97) hP_97 3 (pc' := 282) (lv' := [(11, .int ((yw v11) + (1 : Int32))), (0, .ref v0), (2, .int (yw v2)), (3, .ref v3), (4, .int (yw v4)), (6, .ref v6), (7, .ref v7), (8, .int (yw v8)), (9, .int (yw v9)), (10, .int (yw v10)), (12, .int (yw v12)), (13, .int (yw v13))]) (st' := [.int (-1 : Int32), .int (yw v12)]) rfl ?_
          refine xZ.eqs (lv2 := [(11, .int (yw (v11 + 1))), (0, .ref v0), (2, .int (yw v2)), (3, .ref v3), (4, .int (yw v4)), (6, .ref v6), (7, .ref v7), (8, .int (yw v8)), (9, .int (yw v9)), (10, .int (yw v10)), (12, .int (yw v12)), (13, .int (yw v13))]) (st2 := [.int (yw (-1)), .int (yw v12)]) (by simp only [yl_lit, yL_lit, yw_add, yw_sub, yw_mul, yw_neg, yl_add, yl_sub, yl_mul, cj_and, cj_or, cj_xor, cj_shl, cj_shr, cj_ushr, cj_div, cj_i2c, cj_i2b, cj_dc, ck_and, ck_or, ck_xor, ck_shl, ck_shr, ck_ushr, ck_i2l, ck_l2i, ck_cmp]) (by simp only [yl_lit, yL_lit, yw_add, yw_sub, yw_mul, yw_neg, yl_add, yl_sub, yl_mul, cj_and, cj_or, cj_xor, cj_shl, cj_shr, cj_ushr, cj_div, cj_i2c, cj_i2b, cj_dc, ck_and, ck_or, ck_xor, ck_shl, ck_shr, ck_ushr, ck_i2l, ck_l2i, ck_cmp]) ?_
          refine xZ.jc_eq (me := xm97) hP_97 rfl (fun h6 => ?_) (fun h6 => ?_)
          · skip
            exact xZ.sub (xsc (.tail _ (.head _)) (xsc (.tail _ (.tail _ (.head _))) (xsc (.tail _ (.tail _ (.tail _ (.head _)))) (xsc (.tail _ (.tail _ (.tail _ (.tail _ (.head _))))) (xsc (.tail _ (.tail _ (.tail _ (.tail _ (.tail _ (.head _)))))) (xsc (.tail _ (.tail _ (.tail _ (.tail _ (.tail _ (.tail _ (.head _))))))) (xsc (.tail _ (.tail _ (.tail _ (.tail _ (.tail _ (.tail _ (.tail _ (.head _)))))))) (xsc (.tail _ (.tail _ (.tail _ (.tail _ (.tail _ (.tail _ (.tail _ (.tail _ (.head _))))))))) (xsc (.tail _ (.tail _ (.tail _ (.tail _ (.tail _ (.tail _ (.tail _ (.tail _ (.tail _ (.head _)))))))))) (xsc (.head _) (xsc (.tail _ (.tail _ (.tail _ (.tail _ (.tail _ (.tail _ (.tail _ (.tail _ (.tail _ (.tail _ (.tail _ (.head _)))))))))))) xsn))))))))))) (show ([11, 0, 2, 3, 4, 6, 7, 8, 9, 10, 12, 13] : List Nat).Nodup from by decide) (k_f_Law_areMoved_298 O f d (f_Law_areMoved_246 O f n) ih v0 v2 v3 v4 v6 v7 v8 v9 v10 (v11 + 1) v13 M)
          · skip
            refine xZ.adv (me := xm97) hP_97 2 (pc' := 289) (lv' := [(11, .int (yw (v11 + 1))), (0, .ref v0), (2, .int (yw v2)), (3, .ref v3), (4, .int (yw v4)), (6, .ref v6), (7, .ref v7), (8, .int (yw v8)), (9, .int (yw v9)), (10, .int (yw v10)), (12, .int (yw v12)), (13, .int (yw v13))]) (st' := [.int (yw v13), .ref v7]) rfl ?_
            refine xZ.k_aJ (me := xm97) hP_97 rfl (fun x4 => ?_)
            refine xZ.adv (me := xm97) hP_97 2 (pc' := 294) (lv' := [(11, .int (yw (v11 + 1))), (0, .ref v0), (2, .int (yw v2)), (3, .ref v3), (4, .int (yw v4)), (6, .ref v6), (7, .ref v7), (8, .int (yw v8)), (9, .int (yw v9)), (10, .int (yw v10)), (12, .int (yw v12)), (13, .int (yw v13))]) (st' := [.int (yw v12), .ref v7, .int (yw x4)]) rfl ?_
            refine xZ.k_aJ (me := xm97) hP_97 rfl (fun x5 => ?_)
            refine xZ.jc_ge (me := xm97) hP_97 rfl (fun h7 => ?_) (fun h7 => ?_)
            · skip
              refine xZ.adv (me := xm97) hP_97 2 (pc' := 246) (lv' := [(13, .int ((yw v13) + (1 : Int32))), (11, .int (yw (v11 + 1))), (0, .ref v0), (2, .int (yw v2)), (3, .ref v3), (4, .int (yw v4)), (6, .ref v6), (7, .ref v7), (8, .int (yw v8)), (9, .int (yw v9)), (10, .int (yw v10)), (12, .int (yw v12))]) (st' := []) rfl ?_
              refine xZ.eqs (lv2 := [(13, .int (yw (v13 + 1))), (11, .int (yw (v11 + 1))), (0, .ref v0), (2, .int (yw v2)), (3, .ref v3), (4, .int (yw v4)), (6, .ref v6), (7, .ref v7), (8, .int (yw v8)), (9, .int (yw v9)), (10, .int (yw v10)), (12, .int (yw v12))]) (st2 := []) (by simp only [yl_lit, yL_lit, yw_add, yw_sub, yw_mul, yw_neg, yl_add, yl_sub, yl_mul, cj_and, cj_or, cj_xor, cj_shl, cj_shr, cj_ushr, cj_div, cj_i2c, cj_i2b, cj_dc, ck_and, ck_or, ck_xor, ck_shl, ck_shr, ck_ushr, ck_i2l, ck_l2i, ck_cmp]) rfl ?_
              exact xZ.sub (xsc (.tail _ (.tail _ (.head _))) (xsc (.tail _ (.tail _ (.tail _ (.head _)))) (xsc (.tail _ (.tail _ (.tail _ (.tail _ (.head _))))) (xsc (.tail _ (.tail _ (.tail _ (.tail _ (.tail _ (.head _)))))) (xsc (.tail _ (.tail _ (.tail _ (.tail _ (.tail _ (.tail _ (.head _))))))) (xsc (.tail _ (.tail _ (.tail _ (.tail _ (.tail _ (.tail _ (.tail _ (.head _)))))))) (xsc (.tail _ (.tail _ (.tail _ (.tail _ (.tail _ (.tail _ (.tail _ (.tail _ (.head _))))))))) (xsc (.tail _ (.tail _ (.tail _ (.tail _ (.tail _ (.tail _ (.tail _ (.tail _ (.tail _ (.head _)))))))))) (xsc (.tail _ (.tail _ (.tail _ (.tail _ (.tail _ (.tail _ (.tail _ (.tail _ (.tail _ (.tail _ (.head _))))))))))) (xsc (.tail _ (.head _)) (xsc (.tail _ (.tail _ (.tail _ (.tail _ (.tail _ (.tail _ (.tail _ (.tail _ (.tail _ (.tail _ (.tail _ (.head _)))))))))))) (xsc (.head _) xsn)))))))))))) (show ([13, 11, 0, 2, 3, 4, 6, 7, 8, 9, 10, 12] : List Nat).Nodup from by decide) (ih v0 v2 v3 v4 v6 v7 v8 v9 v10 (v11 + 1) v12 (v13 + 1) M)
            · skip
              exact xZ.sub (xsc (.tail _ (.head _)) (xsc (.tail _ (.tail _ (.head _))) (xsc (.tail _ (.tail _ (.tail _ (.head _)))) (xsc (.tail _ (.tail _ (.tail _ (.tail _ (.head _))))) (xsc (.tail _ (.tail _ (.tail _ (.tail _ (.tail _ (.head _)))))) (xsc (.tail _ (.tail _ (.tail _ (.tail _ (.tail _ (.tail _ (.head _))))))) (xsc (.tail _ (.tail _ (.tail _ (.tail _ (.tail _ (.tail _ (.tail _ (.head _)))))))) (xsc (.tail _ (.tail _ (.tail _ (.tail _ (.tail _ (.tail _ (.tail _ (.tail _ (.head _))))))))) (xsc (.tail _ (.tail _ (.tail _ (.tail _ (.tail _ (.tail _ (.tail _ (.tail _ (.tail _ (.head _)))))))))) (xsc (.head _) (xsc (.tail _ (.tail _ (.tail _ (.tail _ (.tail _ (.tail _ (.tail _ (.tail _ (.tail _ (.tail _ (.tail _ (.head _)))))))))))) xsn))))))))))) (show ([11, 0, 2, 3, 4, 6, 7, 8, 9, 10, 12, 13] : List Nat).Nodup from by decide) (k_f_Law_areMoved_298 O f d (f_Law_areMoved_246 O f n) ih v0 v2 v3 v4 v6 v7 v8 v9 v10 (v11 + 1) v13 M)
        · skip
          refine xZ.adv (me := xm97) hP_97 3 (pc' := 246) (lv' := [(13, .int ((yw v13) + (1 : Int32))), (0, .ref v0), (2, .int (yw v2)), (3, .ref v3), (4, .int (yw v4)), (6, .ref v6), (7, .ref v7), (8, .int (yw v8)), (9, .int (yw v9)), (10, .int (yw v10)), (11, .int (yw v11)), (12, .int (yw v12))]) (st' := []) rfl ?_
          refine xZ.eqs (lv2 := [(13, .int (yw (v13 + 1))), (0, .ref v0), (2, .int (yw v2)), (3, .ref v3), (4, .int (yw v4)), (6, .ref v6), (7, .ref v7), (8, .int (yw v8)), (9, .int (yw v9)), (10, .int (yw v10)), (11, .int (yw v11)), (12, .int (yw v12))]) (st2 := []) (by simp only [yl_lit, yL_lit, yw_add, yw_sub, yw_mul, yw_neg, yl_add, yl_sub, yl_mul, cj_and, cj_or, cj_xor, cj_shl, cj_shr, cj_ushr, cj_div, cj_i2c, cj_i2b, cj_dc, ck_and, ck_or, ck_xor, ck_shl, ck_shr, ck_ushr, ck_i2l, ck_l2i, ck_cmp]) rfl ?_
          exact xZ.sub (xsc (.tail _ (.head _)) (xsc (.tail _ (.tail _ (.head _))) (xsc (.tail _ (.tail _ (.tail _ (.head _)))) (xsc (.tail _ (.tail _ (.tail _ (.tail _ (.head _))))) (xsc (.tail _ (.tail _ (.tail _ (.tail _ (.tail _ (.head _)))))) (xsc (.tail _ (.tail _ (.tail _ (.tail _ (.tail _ (.tail _ (.head _))))))) (xsc (.tail _ (.tail _ (.tail _ (.tail _ (.tail _ (.tail _ (.tail _ (.head _)))))))) (xsc (.tail _ (.tail _ (.tail _ (.tail _ (.tail _ (.tail _ (.tail _ (.tail _ (.head _))))))))) (xsc (.tail _ (.tail _ (.tail _ (.tail _ (.tail _ (.tail _ (.tail _ (.tail _ (.tail _ (.head _)))))))))) (xsc (.tail _ (.tail _ (.tail _ (.tail _ (.tail _ (.tail _ (.tail _ (.tail _ (.tail _ (.tail _ (.head _))))))))))) (xsc (.tail _ (.tail _ (.tail _ (.tail _ (.tail _ (.tail _ (.tail _ (.tail _ (.tail _ (.tail _ (.tail _ (.head _)))))))))))) (xsc (.head _) xsn)))))))))))) (show ([13, 0, 2, 3, 4, 6, 7, 8, 9, 10, 11, 12] : List Nat).Nodup from by decide) (ih v0 v2 v3 v4 v6 v7 v8 v9 v10 v11 v12 (v13 + 1) M)
def f_Law_areMoved_85 (O : Nat → Option va_E) (f : Nat) : Nat → Nat → Nat → Int → Nat → Int → Int → Nat → Nat → Int → Int → xM → Option (Int × xM)
  | 0, _, _, _, _, _, _, _, _, _, _, _ => none
  | n + 1, v0, v1, v2, v3, v4, v5, v6, v7, v8, v9, M =>
    if yw v8 ≤ yw v9 then (
      (aJ O M v6 0).bind fun x1 =>
      xcl (f_Math_max O f 14400 (x1 - 2000) M) fun x2 M1 =>
      xcl (f_Math_min O f (x2 + 525600) ((1440 * (v5 - 1)) - 1500) M1) fun x3 M2 =>
      f_Law_areMoved_246 O f f v0 v2 v3 v4 v6 v7 v8 x2 x3 0 (-1) 0 M2
    ) else
    (isO O M v1 15).bind fun _ =>
    xcl (f_LDraw_n O f v1 v4 M) fun x4 M3 =>
    (isO O M3 v1 15).bind fun _ =>
    xcl (f_LDraw_is O f v1 3 M3) fun x5 M4 =>
    if yw x5 = yw 0 then (
      (aJ O M4 v3 x4).bind fun x6 =>
      (aJ O M4 v3 x4).bind fun x7 =>
      (isO O M4 v1 15).bind fun _ =>
      xcl (f_LDraw_n O f v1 5 M4) fun x8 M5 =>
      (isO O M5 v1 15).bind fun _ =>
      xcl (f_LDraw_n O f v1 1440 M5) fun x9 M6 =>
      (isO O M6 v0 12).bind fun _ =>
      xcl (f_Calendarhall_move O f v0 v2 x6 (x7 + x8) x9 M6) fun x10 M7 =>
      (wJ M7 v7 x4 x10).bind fun M8 =>
      f_Law_areMoved_158 O f (f_Law_areMoved_85 O f n) v0 v1 v2 v3 v4 v5 v6 v7 v8 v9 M8
    ) else
    (aJ O M4 v3 x4).bind fun x11 =>
    (isO O M4 v0 12).bind fun _ =>
    xcl (f_Calendarhall_leaveOut O f v0 v2 x11 M4) fun x12 M9 =>
    (wJ M9 v7 x4 (-1)).bind fun M10 =>
    f_Law_areMoved_158 O f (f_Law_areMoved_85 O f n) v0 v1 v2 v3 v4 v5 v6 v7 v8 v9 M10
set_option maxRecDepth 20000 in
theorem k_f_Law_areMoved_85 (O : Nat → Option va_E) (f d : Nat) : ∀ (n : Nat) (v0 : Nat) (v1 : Nat) (v2 : Int) (v3 : Nat) (v4 : Int) (v5 : Int) (v6 : Nat) (v7 : Nat) (v8 : Int) (v9 : Int) (M : xM), xZ oJ O (d + 7) 97 85 [(0, .ref v0), (1, .ref v1), (2, .int (yw v2)), (3, .ref v3), (4, .int (yw v4)), (5, .int (yw v5)), (6, .ref v6), (7, .ref v7), (8, .int (yw v8)), (9, .int (yw v9))] [] M (f_Law_areMoved_85 O f n v0 v1 v2 v3 v4 v5 v6 v7 v8 v9 M) := by
  intro n
  induction n with
  | zero =>
    intro v0 v1 v2 v3 v4 v5 v6 v7 v8 v9 M
    exact xZ.no
  | succ n ih =>
    intro v0 v1 v2 v3 v4 v5 v6 v7 v8 v9 M
    unfold f_Law_areMoved_85
    refine xZ.adv (me := xm97) hP_97 2 (pc' := 89) (lv' := [(0, .ref v0), (1, .ref v1), (2, .int (yw v2)), (3, .ref v3), (4, .int (yw v4)), (5, .int (yw v5)), (6, .ref v6), (7, .ref v7), (8, .int (yw v8)), (9, .int (yw v9))]) (st' := [.int (yw v8), .int (yw v9)]) rfl ?_
    refine xZ.jc_ge (me := xm97) hP_97 rfl (fun h1 => ?_) (fun h1 => ?_)
    · skip
      refine xZ.adv (me := xm97) hP_97 3 (pc' := 205) (lv' := [(0, .ref v0), (1, .ref v1), (2, .int (yw v2)), (3, .ref v3), (4, .int (yw v4)), (5, .int (yw v5)), (6, .ref v6), (7, .ref v7), (8, .int (yw v8)), (9, .int (yw v9))]) (st' := [.int (0 : Int32), .ref v6, .int (14400 : Int32)]) rfl ?_
      refine xZ.eqs (lv2 := [(0, .ref v0), (1, .ref v1), (2, .int (yw v2)), (3, .ref v3), (4, .int (yw v4)), (5, .int (yw v5)), (6, .ref v6), (7, .ref v7), (8, .int (yw v8)), (9, .int (yw v9))]) (st2 := [.int (yw 0), .ref v6, .int (yw 14400)]) rfl (by simp only [yl_lit, yL_lit, yw_add, yw_sub, yw_mul, yw_neg, yl_add, yl_sub, yl_mul, cj_and, cj_or, cj_xor, cj_shl, cj_shr, cj_ushr, cj_div, cj_i2c, cj_i2b, cj_dc, ck_and, ck_or, ck_xor, ck_shl, ck_shr, ck_ushr, ck_i2l, ck_l2i, ck_cmp]) ?_
      refine xZ.k_aJ (me := xm97) hP_97 rfl (fun x1 => ?_)
      refine xZ.adv (me := xm97) hP_97 2 (pc' := 210) (lv' := [(0, .ref v0), (1, .ref v1), (2, .int (yw v2)), (3, .ref v3), (4, .int (yw v4)), (5, .int (yw v5)), (6, .ref v6), (7, .ref v7), (8, .int (yw v8)), (9, .int (yw v9))]) (st' := [.int ((yw x1) - (2000 : Int32)), .int (yw 14400)]) rfl ?_
      refine xZ.eqs (lv2 := [(0, .ref v0), (1, .ref v1), (2, .int (yw v2)), (3, .ref v3), (4, .int (yw v4)), (5, .int (yw v5)), (6, .ref v6), (7, .ref v7), (8, .int (yw v8)), (9, .int (yw v9))]) (st2 := [.int (yw (x1 - 2000)), .int (yw 14400)]) rfl (by simp only [yl_lit, yL_lit, yw_add, yw_sub, yw_mul, yw_neg, yl_add, yl_sub, yl_mul, cj_and, cj_or, cj_xor, cj_shl, cj_shr, cj_ushr, cj_div, cj_i2c, cj_i2b, cj_dc, ck_and, ck_or, ck_xor, ck_shl, ck_shr, ck_ushr, ck_i2l, ck_l2i, ck_cmp]) ?_
      refine xZ.calls (κ := oJ) (av := [.int (yw 14400), .int (yw (x1 - 2000))]) (rest := []) (st' := fun x2 => [.int (yw x2)]) (me := xm97) hP_97 rfl rfl rfl (Nat.le_of_ble_eq_true rfl) (by decide) hP_247 (Nat.le_of_ble_eq_true rfl) (fun _ => rfl) (k_f_Math_max O f (d + 6) 14400 (x1 - 2000) M) (fun x2 M1 => ?_)
      refine xZ.adv (me := xm97) hP_97 11 (pc' := 232) (lv' := [(9, .int (yw x2)), (0, .ref v0), (1, .ref v1), (2, .int (yw v2)), (3, .ref v3), (4, .int (yw v4)), (5, .int (yw v5)), (6, .ref v6), (7, .ref v7), (8, .int (yw v8))]) (st' := [.int (((1440 : Int32) * ((yw v5) - (1 : Int32))) - (1500 : Int32)), .int ((yw x2) + (525600 : Int32))]) rfl ?_
      refine xZ.eqs (lv2 := [(9, .int (yw x2)), (0, .ref v0), (1, .ref v1), (2, .int (yw v2)), (3, .ref v3), (4, .int (yw v4)), (5, .int (yw v5)), (6, .ref v6), (7, .ref v7), (8, .int (yw v8))]) (st2 := [.int (yw ((1440 * (v5 - 1)) - 1500)), .int (yw (x2 + 525600))]) rfl (by simp only [yl_lit, yL_lit, yw_add, yw_sub, yw_mul, yw_neg, yl_add, yl_sub, yl_mul, cj_and, cj_or, cj_xor, cj_shl, cj_shr, cj_ushr, cj_div, cj_i2c, cj_i2b, cj_dc, ck_and, ck_or, ck_xor, ck_shl, ck_shr, ck_ushr, ck_i2l, ck_l2i, ck_cmp]) ?_
      refine xZ.calls (κ := oJ) (av := [.int (yw (x2 + 525600)), .int (yw ((1440 * (v5 - 1)) - 1500))]) (rest := []) (st' := fun x3 => [.int (yw x3)]) (me := xm97) hP_97 rfl rfl rfl (Nat.le_of_ble_eq_true rfl) (by decide) hP_248 (Nat.le_of_ble_eq_true rfl) (fun _ => rfl) (k_f_Math_min O f (d + 6) (x2 + 525600) ((1440 * (v5 - 1)) - 1500) M1) (fun x3 M2 => ?_)
      refine xZ.adv (me := xm97) hP_97 7 (pc' := 246) (lv' := [(13, .int (0 : Int32)), (12, .int (-1 : Int32)), (11, .int (0 : Int32)), (10, .int (yw x3)), (9, .int (yw x2)), (0, .ref v0), (1, .ref v1), (2, .int (yw v2)), (3, .ref v3), (4, .int (yw v4)), (5, .int (yw v5)), (6, .ref v6), (7, .ref v7), (8, .int (yw v8))]) (st' := []) rfl ?_
      refine xZ.eqs (lv2 := [(13, .int (yw 0)), (12, .int (yw (-1))), (11, .int (yw 0)), (10, .int (yw x3)), (9, .int (yw x2)), (0, .ref v0), (1, .ref v1), (2, .int (yw v2)), (3, .ref v3), (4, .int (yw v4)), (5, .int (yw v5)), (6, .ref v6), (7, .ref v7), (8, .int (yw v8))]) (st2 := []) (by simp only [yl_lit, yL_lit, yw_add, yw_sub, yw_mul, yw_neg, yl_add, yl_sub, yl_mul, cj_and, cj_or, cj_xor, cj_shl, cj_shr, cj_ushr, cj_div, cj_i2c, cj_i2b, cj_dc, ck_and, ck_or, ck_xor, ck_shl, ck_shr, ck_ushr, ck_i2l, ck_l2i, ck_cmp]) rfl ?_
      exact xZ.sub (xsc (.tail _ (.tail _ (.tail _ (.tail _ (.tail _ (.head _)))))) (xsc (.tail _ (.tail _ (.tail _ (.tail _ (.tail _ (.tail _ (.tail _ (.head _)))))))) (xsc (.tail _ (.tail _ (.tail _ (.tail _ (.tail _ (.tail _ (.tail _ (.tail _ (.head _))))))))) (xsc (.tail _ (.tail _ (.tail _ (.tail _ (.tail _ (.tail _ (.tail _ (.tail _ (.tail _ (.head _)))))))))) (xsc (.tail _ (.tail _ (.tail _ (.tail _ (.tail _ (.tail _ (.tail _ (.tail _ (.tail _ (.tail _ (.tail _ (.head _)))))))))))) (xsc (.tail _ (.tail _ (.tail _ (.tail _ (.tail _ (.tail _ (.tail _ (.tail _ (.tail _ (.tail _ (.tail _ (.tail _ (.head _))))))))))))) (xsc (.tail _ (.tail _ (.tail _ (.tail _ (.tail _ (.tail _ (.tail _ (.tail _ (.tail _ (.tail _ (.tail _ (.tail _ (.tail _ (.head _)))))))))))))) (xsc (.tail _ (.tail _ (.tail _ (.tail _ (.head _))))) (xsc (.tail _ (.tail _ (.tail _ (.head _)))) (xsc (.tail _ (.tail _ (.head _))) (xsc (.tail _ (.head _)) (xsc (.head _) xsn)))))))))))) (show ([13, 12, 11, 10, 9, 0, 1, 2, 3, 4, 5, 6, 7, 8] : List Nat).Nodup from by decide) (k_f_Law_areMoved_246 O f d f v0 v2 v3 v4 v6 v7 v8 x2 x3 0 (-1) 0 M2)
    · skip
      refine xZ.adv (me := xm97) hP_97 2 (pc' := 95) (lv' := [(0, .ref v0), (1, .ref v1), (2, .int (yw v2)), (3, .ref v3), (4, .int (yw v4)), (5, .int (yw v5)), (6, .ref v6), (7, .ref v7), (8, .int (yw v8)), (9, .int (yw v9))]) (st' := [.int (yw v4), .ref v1]) rfl ?_
      refine xZ.callv (κ := oJ) (av := [.int (yw v4)]) (rest := []) (st' := fun x4 => [.int (yw x4)]) (k0 := v1) (me := xm97) hP_97 rfl (Or.inl rfl) ⟨rfl, by decide⟩ rfl rfl (Nat.le_of_ble_eq_true rfl) (by decide) hP_12 (Nat.le_of_ble_eq_true rfl) (fun _ => rfl) (k_f_LDraw_n O f (d + 6) v1 v4 M) (fun x4 M3 => ?_)
      refine xZ.adv (me := xm97) hP_97 3 (pc' := 102) (lv' := [(10, .int (yw x4)), (0, .ref v0), (1, .ref v1), (2, .int (yw v2)), (3, .ref v3), (4, .int (yw v4)), (5, .int (yw v5)), (6, .ref v6), (7, .ref v7), (8, .int (yw v8)), (9, .int (yw v9))]) (st' := [.int (3 : Int32), .ref v1]) rfl ?_
      refine xZ.eqs (lv2 := [(10, .int (yw x4)), (0, .ref v0), (1, .ref v1), (2, .int (yw v2)), (3, .ref v3), (4, .int (yw v4)), (5, .int (yw v5)), (6, .ref v6), (7, .ref v7), (8, .int (yw v8)), (9, .int (yw v9))]) (st2 := [.int (yw 3), .ref v1]) rfl (by simp only [yl_lit, yL_lit, yw_add, yw_sub, yw_mul, yw_neg, yl_add, yl_sub, yl_mul, cj_and, cj_or, cj_xor, cj_shl, cj_shr, cj_ushr, cj_div, cj_i2c, cj_i2b, cj_dc, ck_and, ck_or, ck_xor, ck_shl, ck_shr, ck_ushr, ck_i2l, ck_l2i, ck_cmp]) ?_
      refine xZ.callv (κ := oJ) (av := [.int (yw 3)]) (rest := []) (st' := fun x5 => [.int (yw x5)]) (k0 := v1) (me := xm97) hP_97 rfl (Or.inl rfl) ⟨rfl, by decide⟩ rfl rfl (Nat.le_of_ble_eq_true rfl) (by decide) hP_18 (Nat.le_of_ble_eq_true rfl) (fun _ => rfl) (k_f_LDraw_is O f (d + 5) v1 3 M3) (fun x5 M4 => ?_)
      refine xZ.jf_eq (me := xm97) hP_97 rfl (fun h2 => ?_) (fun h2 => ?_)
      · skip
        refine xZ.adv (me := xm97) hP_97 6 (pc' := 136) (lv' := [(10, .int (yw x4)), (0, .ref v0), (1, .ref v1), (2, .int (yw v2)), (3, .ref v3), (4, .int (yw v4)), (5, .int (yw v5)), (6, .ref v6), (7, .ref v7), (8, .int (yw v8)), (9, .int (yw v9))]) (st' := [.int (yw x4), .ref v3, .int (yw v2), .ref v0, .int (yw x4), .ref v7]) rfl ?_
        refine xZ.k_aJ (me := xm97) hP_97 rfl (fun x6 => ?_)
        refine xZ.adv (me := xm97) hP_97 2 (pc' := 140) (lv' := [(10, .int (yw x4)), (0, .ref v0), (1, .ref v1), (2, .int (yw v2)), (3, .ref v3), (4, .int (yw v4)), (5, .int (yw v5)), (6, .ref v6), (7, .ref v7), (8, .int (yw v8)), (9, .int (yw v9))]) (st' := [.int (yw x4), .ref v3, .int (yw x6), .int (yw v2), .ref v0, .int (yw x4), .ref v7]) rfl ?_
        refine xZ.k_aJ (me := xm97) hP_97 rfl (fun x7 => ?_)
        refine xZ.adv (me := xm97) hP_97 2 (pc' := 143) (lv' := [(10, .int (yw x4)), (0, .ref v0), (1, .ref v1), (2, .int (yw v2)), (3, .ref v3), (4, .int (yw v4)), (5, .int (yw v5)), (6, .ref v6), (7, .ref v7), (8, .int (yw v8)), (9, .int (yw v9))]) (st' := [.int (5 : Int32), .ref v1, .int (yw x7), .int (yw x6), .int (yw v2), .ref v0, .int (yw x4), .ref v7]) rfl ?_
        refine xZ.eqs (lv2 := [(10, .int (yw x4)), (0, .ref v0), (1, .ref v1), (2, .int (yw v2)), (3, .ref v3), (4, .int (yw v4)), (5, .int (yw v5)), (6, .ref v6), (7, .ref v7), (8, .int (yw v8)), (9, .int (yw v9))]) (st2 := [.int (yw 5), .ref v1, .int (yw x7), .int (yw x6), .int (yw v2), .ref v0, .int (yw x4), .ref v7]) rfl (by simp only [yl_lit, yL_lit, yw_add, yw_sub, yw_mul, yw_neg, yl_add, yl_sub, yl_mul, cj_and, cj_or, cj_xor, cj_shl, cj_shr, cj_ushr, cj_div, cj_i2c, cj_i2b, cj_dc, ck_and, ck_or, ck_xor, ck_shl, ck_shr, ck_ushr, ck_i2l, ck_l2i, ck_cmp]) ?_
        refine xZ.callv (κ := oJ) (av := [.int (yw 5)]) (rest := [.int (yw x7), .int (yw x6), .int (yw v2), .ref v0, .int (yw x4), .ref v7]) (st' := fun x8 => [.int (yw x8), .int (yw x7), .int (yw x6), .int (yw v2), .ref v0, .int (yw x4), .ref v7]) (k0 := v1) (me := xm97) hP_97 rfl (Or.inl rfl) ⟨rfl, by decide⟩ rfl rfl (Nat.le_of_ble_eq_true rfl) (by decide) hP_12 (Nat.le_of_ble_eq_true rfl) (fun _ => rfl) (k_f_LDraw_n O f (d + 6) v1 5 M4) (fun x8 M5 => ?_)
        refine xZ.adv (me := xm97) hP_97 3 (pc' := 151) (lv' := [(10, .int (yw x4)), (0, .ref v0), (1, .ref v1), (2, .int (yw v2)), (3, .ref v3), (4, .int (yw v4)), (5, .int (yw v5)), (6, .ref v6), (7, .ref v7), (8, .int (yw v8)), (9, .int (yw v9))]) (st' := [.int (1440 : Int32), .ref v1, .int ((yw x7) + (yw x8)), .int (yw x6), .int (yw v2), .ref v0, .int (yw x4), .ref v7]) rfl ?_
        refine xZ.eqs (lv2 := [(10, .int (yw x4)), (0, .ref v0), (1, .ref v1), (2, .int (yw v2)), (3, .ref v3), (4, .int (yw v4)), (5, .int (yw v5)), (6, .ref v6), (7, .ref v7), (8, .int (yw v8)), (9, .int (yw v9))]) (st2 := [.int (yw 1440), .ref v1, .int (yw (x7 + x8)), .int (yw x6), .int (yw v2), .ref v0, .int (yw x4), .ref v7]) rfl (by simp only [yl_lit, yL_lit, yw_add, yw_sub, yw_mul, yw_neg, yl_add, yl_sub, yl_mul, cj_and, cj_or, cj_xor, cj_shl, cj_shr, cj_ushr, cj_div, cj_i2c, cj_i2b, cj_dc, ck_and, ck_or, ck_xor, ck_shl, ck_shr, ck_ushr, ck_i2l, ck_l2i, ck_cmp]) ?_
        refine xZ.callv (κ := oJ) (av := [.int (yw 1440)]) (rest := [.int (yw (x7 + x8)), .int (yw x6), .int (yw v2), .ref v0, .int (yw x4), .ref v7]) (st' := fun x9 => [.int (yw x9), .int (yw (x7 + x8)), .int (yw x6), .int (yw v2), .ref v0, .int (yw x4), .ref v7]) (k0 := v1) (me := xm97) hP_97 rfl (Or.inl rfl) ⟨rfl, by decide⟩ rfl rfl (Nat.le_of_ble_eq_true rfl) (by decide) hP_12 (Nat.le_of_ble_eq_true rfl) (fun _ => rfl) (k_f_LDraw_n O f (d + 6) v1 1440 M5) (fun x9 M6 => ?_)
        refine xZ.callv (κ := oJ) (av := [.int (yw v2), .int (yw x6), .int (yw (x7 + x8)), .int (yw x9)]) (rest := [.int (yw x4), .ref v7]) (st' := fun x10 => [.int (yw x10), .int (yw x4), .ref v7]) (k0 := v0) (me := xm97) hP_97 rfl (Or.inl rfl) ⟨rfl, by decide⟩ rfl rfl (Nat.le_of_ble_eq_true rfl) (by decide) hP_112 (Nat.le_of_ble_eq_true rfl) (fun _ => rfl) (k_f_Calendarhall_move O f (d + 1) v0 v2 x6 (x7 + x8) x9 M6) (fun x10 M7 => ?_)
        refine xZ.k_wJ (me := xm97) hP_97 rfl (fun M8 => ?_)
        exact xZ.sub (xsc (.tail _ (.head _)) (xsc (.tail _ (.tail _ (.head _))) (xsc (.tail _ (.tail _ (.tail _ (.head _)))) (xsc (.tail _ (.tail _ (.tail _ (.tail _ (.head _))))) (xsc (.tail _ (.tail _ (.tail _ (.tail _ (.tail _ (.head _)))))) (xsc (.tail _ (.tail _ (.tail _ (.tail _ (.tail _ (.tail _ (.head _))))))) (xsc (.tail _ (.tail _ (.tail _ (.tail _ (.tail _ (.tail _ (.tail _ (.head _)))))))) (xsc (.tail _ (.tail _ (.tail _ (.tail _ (.tail _ (.tail _ (.tail _ (.tail _ (.head _))))))))) (xsc (.tail _ (.tail _ (.tail _ (.tail _ (.tail _ (.tail _ (.tail _ (.tail _ (.tail _ (.head _)))))))))) (xsc (.tail _ (.tail _ (.tail _ (.tail _ (.tail _ (.tail _ (.tail _ (.tail _ (.tail _ (.tail _ (.head _))))))))))) xsn)))))))))) (show ([10, 0, 1, 2, 3, 4, 5, 6, 7, 8, 9] : List Nat).Nodup from by decide) (k_f_Law_areMoved_158 O f d (f_Law_areMoved_85 O f n) ih v0 v1 v2 v3 v4 v5 v6 v7 v8 v9 M8)
      · skip
        refine xZ.adv (me := xm97) hP_97 4 (pc' := 113) (lv' := [(10, .int (yw x4)), (0, .ref v0), (1, .ref v1), (2, .int (yw v2)), (3, .ref v3), (4, .int (yw v4)), (5, .int (yw v5)), (6, .ref v6), (7, .ref v7), (8, .int (yw v8)), (9, .int (yw v9))]) (st' := [.int (yw x4), .ref v3, .int (yw v2), .ref v0]) rfl ?_
        refine xZ.k_aJ (me := xm97) hP_97 rfl (fun x11 => ?_)
        refine xZ.callv (κ := oJ) (av := [.int (yw v2), .int (yw x11)]) (rest := []) (st' := fun x12 => [.int (yw x12)]) (k0 := v0) (me := xm97) hP_97 rfl (Or.inl rfl) ⟨rfl, by decide⟩ rfl rfl (Nat.le_of_ble_eq_true rfl) (by decide) hP_109 (Nat.le_of_ble_eq_true rfl) (fun _ => rfl) (k_f_Calendarhall_leaveOut O f (d + 1) v0 v2 x11 M4) (fun x12 M9 => ?_)
        refine xZ.adv (me := xm97) hP_97 4 (pc' := 123) (lv' := [(10, .int (yw x4)), (0, .ref v0), (1, .ref v1), (2, .int (yw v2)), (3, .ref v3), (4, .int (yw v4)), (5, .int (yw v5)), (6, .ref v6), (7, .ref v7), (8, .int (yw v8)), (9, .int (yw v9))]) (st' := [.int (-1 : Int32), .int (yw x4), .ref v7]) rfl ?_
        refine xZ.eqs (lv2 := [(10, .int (yw x4)), (0, .ref v0), (1, .ref v1), (2, .int (yw v2)), (3, .ref v3), (4, .int (yw v4)), (5, .int (yw v5)), (6, .ref v6), (7, .ref v7), (8, .int (yw v8)), (9, .int (yw v9))]) (st2 := [.int (yw (-1)), .int (yw x4), .ref v7]) rfl (by simp only [yl_lit, yL_lit, yw_add, yw_sub, yw_mul, yw_neg, yl_add, yl_sub, yl_mul, cj_and, cj_or, cj_xor, cj_shl, cj_shr, cj_ushr, cj_div, cj_i2c, cj_i2b, cj_dc, ck_and, ck_or, ck_xor, ck_shl, ck_shr, ck_ushr, ck_i2l, ck_l2i, ck_cmp]) ?_
        refine xZ.k_wJ (me := xm97) hP_97 rfl (fun M10 => ?_)
        refine xZ.adv (me := xm97) hP_97 1 (pc' := 158) (lv' := [(10, .int (yw x4)), (0, .ref v0), (1, .ref v1), (2, .int (yw v2)), (3, .ref v3), (4, .int (yw v4)), (5, .int (yw v5)), (6, .ref v6), (7, .ref v7), (8, .int (yw v8)), (9, .int (yw v9))]) (st' := []) rfl ?_
        exact xZ.sub (xsc (.tail _ (.head _)) (xsc (.tail _ (.tail _ (.head _))) (xsc (.tail _ (.tail _ (.tail _ (.head _)))) (xsc (.tail _ (.tail _ (.tail _ (.tail _ (.head _))))) (xsc (.tail _ (.tail _ (.tail _ (.tail _ (.tail _ (.head _)))))) (xsc (.tail _ (.tail _ (.tail _ (.tail _ (.tail _ (.tail _ (.head _))))))) (xsc (.tail _ (.tail _ (.tail _ (.tail _ (.tail _ (.tail _ (.tail _ (.head _)))))))) (xsc (.tail _ (.tail _ (.tail _ (.tail _ (.tail _ (.tail _ (.tail _ (.tail _ (.head _))))))))) (xsc (.tail _ (.tail _ (.tail _ (.tail _ (.tail _ (.tail _ (.tail _ (.tail _ (.tail _ (.head _)))))))))) (xsc (.tail _ (.tail _ (.tail _ (.tail _ (.tail _ (.tail _ (.tail _ (.tail _ (.tail _ (.tail _ (.head _))))))))))) xsn)))))))))) (show ([10, 0, 1, 2, 3, 4, 5, 6, 7, 8, 9] : List Nat).Nodup from by decide) (k_f_Law_areMoved_158 O f d (f_Law_areMoved_85 O f n) ih v0 v1 v2 v3 v4 v5 v6 v7 v8 v9 M10)
def f_Law_areMoved_45 (O : Nat → Option va_E) (f : Nat) : Nat → Nat → Nat → Int → Nat → Int → Int → Nat → Nat → Int → xM → Option (Int × xM)
  | 0, _, _, _, _, _, _, _, _, _, _ => none
  | n + 1, v0, v1, v2, v3, v4, v5, v6, v7, v8, M =>
    if yw v4 ≤ yw v8 then (
      (isO O M v1 15).bind fun _ =>
      xcl (f_LDraw_n O f v1 4 M) fun x1 M1 =>
      xcl (f_Math_min O f v4 (1 + x1) M1) fun x2 M2 =>
      f_Law_areMoved_85 O f f v0 v1 v2 v3 v4 v5 v6 v7 x2 0 M2
    ) else
    (aJ O M v6 v8).bind fun x3 =>
    (wJ M v7 v8 x3).bind fun M3 =>
    f_Law_areMoved_45 O f n v0 v1 v2 v3 v4 v5 v6 v7 (v8 + 1) M3
set_option maxRecDepth 20000 in
theorem k_f_Law_areMoved_45 (O : Nat → Option va_E) (f d : Nat) : ∀ (n : Nat) (v0 : Nat) (v1 : Nat) (v2 : Int) (v3 : Nat) (v4 : Int) (v5 : Int) (v6 : Nat) (v7 : Nat) (v8 : Int) (M : xM), xZ oJ O (d + 7) 97 45 [(0, .ref v0), (1, .ref v1), (2, .int (yw v2)), (3, .ref v3), (4, .int (yw v4)), (5, .int (yw v5)), (6, .ref v6), (7, .ref v7), (8, .int (yw v8))] [] M (f_Law_areMoved_45 O f n v0 v1 v2 v3 v4 v5 v6 v7 v8 M) := by
  intro n
  induction n with
  | zero =>
    intro v0 v1 v2 v3 v4 v5 v6 v7 v8 M
    exact xZ.no
  | succ n ih =>
    intro v0 v1 v2 v3 v4 v5 v6 v7 v8 M
    unfold f_Law_areMoved_45
    refine xZ.adv (me := xm97) hP_97 2 (pc' := 49) (lv' := [(0, .ref v0), (1, .ref v1), (2, .int (yw v2)), (3, .ref v3), (4, .int (yw v4)), (5, .int (yw v5)), (6, .ref v6), (7, .ref v7), (8, .int (yw v8))]) (st' := [.int (yw v4), .int (yw v8)]) rfl ?_
    refine xZ.jc_ge (me := xm97) hP_97 rfl (fun h1 => ?_) (fun h1 => ?_)
    · skip
      refine xZ.adv (me := xm97) hP_97 4 (pc' := 73) (lv' := [(0, .ref v0), (1, .ref v1), (2, .int (yw v2)), (3, .ref v3), (4, .int (yw v4)), (5, .int (yw v5)), (6, .ref v6), (7, .ref v7), (8, .int (yw v8))]) (st' := [.int (4 : Int32), .ref v1, .int (1 : Int32), .int (yw v4)]) rfl ?_
      refine xZ.eqs (lv2 := [(0, .ref v0), (1, .ref v1), (2, .int (yw v2)), (3, .ref v3), (4, .int (yw v4)), (5, .int (yw v5)), (6, .ref v6), (7, .ref v7), (8, .int (yw v8))]) (st2 := [.int (yw 4), .ref v1, .int (yw 1), .int (yw v4)]) rfl (by simp only [yl_lit, yL_lit, yw_add, yw_sub, yw_mul, yw_neg, yl_add, yl_sub, yl_mul, cj_and, cj_or, cj_xor, cj_shl, cj_shr, cj_ushr, cj_div, cj_i2c, cj_i2b, cj_dc, ck_and, ck_or, ck_xor, ck_shl, ck_shr, ck_ushr, ck_i2l, ck_l2i, ck_cmp]) ?_
      refine xZ.callv (κ := oJ) (av := [.int (yw 4)]) (rest := [.int (yw 1), .int (yw v4)]) (st' := fun x1 => [.int (yw x1), .int (yw 1), .int (yw v4)]) (k0 := v1) (me := xm97) hP_97 rfl (Or.inl rfl) ⟨rfl, by decide⟩ rfl rfl (Nat.le_of_ble_eq_true rfl) (by decide) hP_12 (Nat.le_of_ble_eq_true rfl) (fun _ => rfl) (k_f_LDraw_n O f (d + 6) v1 4 M) (fun x1 M1 => ?_)
      refine xZ.adv (me := xm97) hP_97 1 (pc' := 77) (lv' := [(0, .ref v0), (1, .ref v1), (2, .int (yw v2)), (3, .ref v3), (4, .int (yw v4)), (5, .int (yw v5)), (6, .ref v6), (7, .ref v7), (8, .int (yw v8))]) (st' := [.int ((yw 1) + (yw x1)), .int (yw v4)]) rfl ?_
      refine xZ.eqs (lv2 := [(0, .ref v0), (1, .ref v1), (2, .int (yw v2)), (3, .ref v3), (4, .int (yw v4)), (5, .int (yw v5)), (6, .ref v6), (7, .ref v7), (8, .int (yw v8))]) (st2 := [.int (yw (1 + x1)), .int (yw v4)]) rfl (by simp only [yl_lit, yL_lit, yw_add, yw_sub, yw_mul, yw_neg, yl_add, yl_sub, yl_mul, cj_and, cj_or, cj_xor, cj_shl, cj_shr, cj_ushr, cj_div, cj_i2c, cj_i2b, cj_dc, ck_and, ck_or, ck_xor, ck_shl, ck_shr, ck_ushr, ck_i2l, ck_l2i, ck_cmp]) ?_
      refine xZ.calls (κ := oJ) (av := [.int (yw v4), .int (yw (1 + x1))]) (rest := []) (st' := fun x2 => [.int (yw x2)]) (me := xm97) hP_97 rfl rfl rfl (Nat.le_of_ble_eq_true rfl) (by decide) hP_248 (Nat.le_of_ble_eq_true rfl) (fun _ => rfl) (k_f_Math_min O f (d + 6) v4 (1 + x1) M1) (fun x2 M2 => ?_)
      refine xZ.adv (me := xm97) hP_97 3 (pc' := 85) (lv' := [(9, .int (0 : Int32)), (8, .int (yw x2)), (0, .ref v0), (1, .ref v1), (2, .int (yw v2)), (3, .ref v3), (4, .int (yw v4)), (5, .int (yw v5)), (6, .ref v6), (7, .ref v7)]) (st' := []) rfl ?_
      refine xZ.eqs (lv2 := [(9, .int (yw 0)), (8, .int (yw x2)), (0, .ref v0), (1, .ref v1), (2, .int (yw v2)), (3, .ref v3), (4, .int (yw v4)), (5, .int (yw v5)), (6, .ref v6), (7, .ref v7)]) (st2 := []) (by simp only [yl_lit, yL_lit, yw_add, yw_sub, yw_mul, yw_neg, yl_add, yl_sub, yl_mul, cj_and, cj_or, cj_xor, cj_shl, cj_shr, cj_ushr, cj_div, cj_i2c, cj_i2b, cj_dc, ck_and, ck_or, ck_xor, ck_shl, ck_shr, ck_ushr, ck_i2l, ck_l2i, ck_cmp]) rfl ?_
      exact xZ.sub (xsc (.tail _ (.tail _ (.head _))) (xsc (.tail _ (.tail _ (.tail _ (.head _)))) (xsc (.tail _ (.tail _ (.tail _ (.tail _ (.head _))))) (xsc (.tail _ (.tail _ (.tail _ (.tail _ (.tail _ (.head _)))))) (xsc (.tail _ (.tail _ (.tail _ (.tail _ (.tail _ (.tail _ (.head _))))))) (xsc (.tail _ (.tail _ (.tail _ (.tail _ (.tail _ (.tail _ (.tail _ (.head _)))))))) (xsc (.tail _ (.tail _ (.tail _ (.tail _ (.tail _ (.tail _ (.tail _ (.tail _ (.head _))))))))) (xsc (.tail _ (.tail _ (.tail _ (.tail _ (.tail _ (.tail _ (.tail _ (.tail _ (.tail _ (.head _)))))))))) (xsc (.tail _ (.head _)) (xsc (.head _) xsn)))))))))) (show ([9, 8, 0, 1, 2, 3, 4, 5, 6, 7] : List Nat).Nodup from by decide) (k_f_Law_areMoved_85 O f d f v0 v1 v2 v3 v4 v5 v6 v7 x2 0 M2)
    · skip
      refine xZ.adv (me := xm97) hP_97 4 (pc' := 60) (lv' := [(0, .ref v0), (1, .ref v1), (2, .int (yw v2)), (3, .ref v3), (4, .int (yw v4)), (5, .int (yw v5)), (6, .ref v6), (7, .ref v7), (8, .int (yw v8))]) (st' := [.int (yw v8), .ref v6, .int (yw v8), .ref v7]) rfl ?_
      refine xZ.k_aJ (me := xm97) hP_97 rfl (fun x3 => ?_)
      refine xZ.k_wJ (me := xm97) hP_97 rfl (fun M3 => ?_)
      refine xZ.adv (me := xm97) hP_97 2 (pc' := 45) (lv' := [(8, .int ((yw v8) + (1 : Int32))), (0, .ref v0), (1, .ref v1), (2, .int (yw v2)), (3, .ref v3), (4, .int (yw v4)), (5, .int (yw v5)), (6, .ref v6), (7, .ref v7)]) (st' := []) rfl ?_
      refine xZ.eqs (lv2 := [(8, .int (yw (v8 + 1))), (0, .ref v0), (1, .ref v1), (2, .int (yw v2)), (3, .ref v3), (4, .int (yw v4)), (5, .int (yw v5)), (6, .ref v6), (7, .ref v7)]) (st2 := []) (by simp only [yl_lit, yL_lit, yw_add, yw_sub, yw_mul, yw_neg, yl_add, yl_sub, yl_mul, cj_and, cj_or, cj_xor, cj_shl, cj_shr, cj_ushr, cj_div, cj_i2c, cj_i2b, cj_dc, ck_and, ck_or, ck_xor, ck_shl, ck_shr, ck_ushr, ck_i2l, ck_l2i, ck_cmp]) rfl ?_
      exact xZ.sub (xsc (.tail _ (.head _)) (xsc (.tail _ (.tail _ (.head _))) (xsc (.tail _ (.tail _ (.tail _ (.head _)))) (xsc (.tail _ (.tail _ (.tail _ (.tail _ (.head _))))) (xsc (.tail _ (.tail _ (.tail _ (.tail _ (.tail _ (.head _)))))) (xsc (.tail _ (.tail _ (.tail _ (.tail _ (.tail _ (.tail _ (.head _))))))) (xsc (.tail _ (.tail _ (.tail _ (.tail _ (.tail _ (.tail _ (.tail _ (.head _)))))))) (xsc (.tail _ (.tail _ (.tail _ (.tail _ (.tail _ (.tail _ (.tail _ (.tail _ (.head _))))))))) (xsc (.head _) xsn))))))))) (show ([8, 0, 1, 2, 3, 4, 5, 6, 7] : List Nat).Nodup from by decide) (ih v0 v1 v2 v3 v4 v5 v6 v7 (v8 + 1) M3)
def f_Law_areMoved_9 (O : Nat → Option va_E) (f : Nat) : Nat → Nat → Nat → Int → Nat → Int → Int → Nat → Int → xM → Option (Int × xM)
  | 0, _, _, _, _, _, _, _, _, _ => none
  | n + 1, v0, v1, v2, v3, v4, v5, v6, v7, M =>
    if yw v4 ≤ yw v7 then (
      xcl (nAJ M 0 v4) fun x1 M1 =>
      f_Law_areMoved_45 O f f v0 v1 v2 v3 v4 v5 v6 x1 0 M1
    ) else
    (aJ O M v3 v7).bind fun x2 =>
    (isO O M v0 12).bind fun _ =>
    xcl (f_Calendarhall_begin O f v0 v2 x2 M) fun x3 M2 =>
    (wJ M2 v6 v7 x3).bind fun M3 =>
    f_Law_areMoved_9 O f n v0 v1 v2 v3 v4 v5 v6 (v7 + 1) M3
set_option maxRecDepth 20000 in
theorem k_f_Law_areMoved_9 (O : Nat → Option va_E) (f d : Nat) : ∀ (n : Nat) (v0 : Nat) (v1 : Nat) (v2 : Int) (v3 : Nat) (v4 : Int) (v5 : Int) (v6 : Nat) (v7 : Int) (M : xM), xZ oJ O (d + 7) 97 9 [(0, .ref v0), (1, .ref v1), (2, .int (yw v2)), (3, .ref v3), (4, .int (yw v4)), (5, .int (yw v5)), (6, .ref v6), (7, .int (yw v7))] [] M (f_Law_areMoved_9 O f n v0 v1 v2 v3 v4 v5 v6 v7 M) := by
  intro n
  induction n with
  | zero =>
    intro v0 v1 v2 v3 v4 v5 v6 v7 M
    exact xZ.no
  | succ n ih =>
    intro v0 v1 v2 v3 v4 v5 v6 v7 M
    unfold f_Law_areMoved_9
    refine xZ.adv (me := xm97) hP_97 2 (pc' := 13) (lv' := [(0, .ref v0), (1, .ref v1), (2, .int (yw v2)), (3, .ref v3), (4, .int (yw v4)), (5, .int (yw v5)), (6, .ref v6), (7, .int (yw v7))]) (st' := [.int (yw v4), .int (yw v7)]) rfl ?_
    refine xZ.jc_ge (me := xm97) hP_97 rfl (fun h1 => ?_) (fun h1 => ?_)
    · skip
      refine xZ.adv (me := xm97) hP_97 1 (pc' := 38) (lv' := [(0, .ref v0), (1, .ref v1), (2, .int (yw v2)), (3, .ref v3), (4, .int (yw v4)), (5, .int (yw v5)), (6, .ref v6), (7, .int (yw v7))]) (st' := [.int (yw v4)]) rfl ?_
      refine xZ.k_nAJ (me := xm97) hP_97 rfl rfl (by decide) (fun x1 M1 => ?_)
      refine xZ.adv (me := xm97) hP_97 3 (pc' := 45) (lv' := [(8, .int (0 : Int32)), (7, .ref x1), (0, .ref v0), (1, .ref v1), (2, .int (yw v2)), (3, .ref v3), (4, .int (yw v4)), (5, .int (yw v5)), (6, .ref v6)]) (st' := []) rfl ?_
      refine xZ.eqs (lv2 := [(8, .int (yw 0)), (7, .ref x1), (0, .ref v0), (1, .ref v1), (2, .int (yw v2)), (3, .ref v3), (4, .int (yw v4)), (5, .int (yw v5)), (6, .ref v6)]) (st2 := []) (by simp only [yl_lit, yL_lit, yw_add, yw_sub, yw_mul, yw_neg, yl_add, yl_sub, yl_mul, cj_and, cj_or, cj_xor, cj_shl, cj_shr, cj_ushr, cj_div, cj_i2c, cj_i2b, cj_dc, ck_and, ck_or, ck_xor, ck_shl, ck_shr, ck_ushr, ck_i2l, ck_l2i, ck_cmp]) rfl ?_
      exact xZ.sub (xsc (.tail _ (.tail _ (.head _))) (xsc (.tail _ (.tail _ (.tail _ (.head _)))) (xsc (.tail _ (.tail _ (.tail _ (.tail _ (.head _))))) (xsc (.tail _ (.tail _ (.tail _ (.tail _ (.tail _ (.head _)))))) (xsc (.tail _ (.tail _ (.tail _ (.tail _ (.tail _ (.tail _ (.head _))))))) (xsc (.tail _ (.tail _ (.tail _ (.tail _ (.tail _ (.tail _ (.tail _ (.head _)))))))) (xsc (.tail _ (.tail _ (.tail _ (.tail _ (.tail _ (.tail _ (.tail _ (.tail _ (.head _))))))))) (xsc (.tail _ (.head _)) (xsc (.head _) xsn))))))))) (show ([8, 7, 0, 1, 2, 3, 4, 5, 6] : List Nat).Nodup from by decide) (k_f_Law_areMoved_45 O f d f v0 v1 v2 v3 v4 v5 v6 x1 0 M1)
    · skip
      refine xZ.adv (me := xm97) hP_97 6 (pc' := 25) (lv' := [(0, .ref v0), (1, .ref v1), (2, .int (yw v2)), (3, .ref v3), (4, .int (yw v4)), (5, .int (yw v5)), (6, .ref v6), (7, .int (yw v7))]) (st' := [.int (yw v7), .ref v3, .int (yw v2), .ref v0, .int (yw v7), .ref v6]) rfl ?_
      refine xZ.k_aJ (me := xm97) hP_97 rfl (fun x2 => ?_)
      refine xZ.callv (κ := oJ) (av := [.int (yw v2), .int (yw x2)]) (rest := [.int (yw v7), .ref v6]) (st' := fun x3 => [.int (yw x3), .int (yw v7), .ref v6]) (k0 := v0) (me := xm97) hP_97 rfl (Or.inl rfl) ⟨rfl, by decide⟩ rfl rfl (Nat.le_of_ble_eq_true rfl) (by decide) hP_98 (Nat.le_of_ble_eq_true rfl) (fun _ => rfl) (k_f_Calendarhall_begin O f (d + 1) v0 v2 x2 M) (fun x3 M2 => ?_)
      refine xZ.k_wJ (me := xm97) hP_97 rfl (fun M3 => ?_)
      refine xZ.adv (me := xm97) hP_97 2 (pc' := 9) (lv' := [(7, .int ((yw v7) + (1 : Int32))), (0, .ref v0), (1, .ref v1), (2, .int (yw v2)), (3, .ref v3), (4, .int (yw v4)), (5, .int (yw v5)), (6, .ref v6)]) (st' := []) rfl ?_
      refine xZ.eqs (lv2 := [(7, .int (yw (v7 + 1))), (0, .ref v0), (1, .ref v1), (2, .int (yw v2)), (3, .ref v3), (4, .int (yw v4)), (5, .int (yw v5)), (6, .ref v6)]) (st2 := []) (by simp only [yl_lit, yL_lit, yw_add, yw_sub, yw_mul, yw_neg, yl_add, yl_sub, yl_mul, cj_and, cj_or, cj_xor, cj_shl, cj_shr, cj_ushr, cj_div, cj_i2c, cj_i2b, cj_dc, ck_and, ck_or, ck_xor, ck_shl, ck_shr, ck_ushr, ck_i2l, ck_l2i, ck_cmp]) rfl ?_
      exact xZ.sub (xsc (.tail _ (.head _)) (xsc (.tail _ (.tail _ (.head _))) (xsc (.tail _ (.tail _ (.tail _ (.head _)))) (xsc (.tail _ (.tail _ (.tail _ (.tail _ (.head _))))) (xsc (.tail _ (.tail _ (.tail _ (.tail _ (.tail _ (.head _)))))) (xsc (.tail _ (.tail _ (.tail _ (.tail _ (.tail _ (.tail _ (.head _))))))) (xsc (.tail _ (.tail _ (.tail _ (.tail _ (.tail _ (.tail _ (.tail _ (.head _)))))))) (xsc (.head _) xsn)))))))) (show ([7, 0, 1, 2, 3, 4, 5, 6] : List Nat).Nodup from by decide) (ih v0 v1 v2 v3 v4 v5 v6 (v7 + 1) M3)
def f_Law_areMoved (O : Nat → Option va_E) (f : Nat) (v0 : Nat) (v1 : Nat) (v2 : Int) (v3 : Nat) (v4 : Int) (v5 : Int) (M : xM) : Option (Int × xM) :=
  xcl (nAJ M 0 v4) fun x1 M1 =>
  f_Law_areMoved_9 O f f v0 v1 v2 v3 v4 v5 x1 0 M1
set_option maxRecDepth 20000 in
theorem k_f_Law_areMoved (O : Nat → Option va_E) (f d : Nat) (v0 : Nat) (v1 : Nat) (v2 : Int) (v3 : Nat) (v4 : Int) (v5 : Int) (M : xM) : xZ oJ O (d + 7) 97 0 [(0, .ref v0), (1, .ref v1), (2, .int (yw v2)), (3, .ref v3), (4, .int (yw v4)), (5, .int (yw v5))] [] M (f_Law_areMoved O f v0 v1 v2 v3 v4 v5 M) := by
  unfold f_Law_areMoved
  refine xZ.adv (me := xm97) hP_97 1 (pc' := 2) (lv' := [(0, .ref v0), (1, .ref v1), (2, .int (yw v2)), (3, .ref v3), (4, .int (yw v4)), (5, .int (yw v5))]) (st' := [.int (yw v4)]) rfl ?_
  refine xZ.k_nAJ (me := xm97) hP_97 rfl rfl (by decide) (fun x1 M1 => ?_)
  refine xZ.adv (me := xm97) hP_97 3 (pc' := 9) (lv' := [(7, .int (0 : Int32)), (6, .ref x1), (0, .ref v0), (1, .ref v1), (2, .int (yw v2)), (3, .ref v3), (4, .int (yw v4)), (5, .int (yw v5))]) (st' := []) rfl ?_
  refine xZ.eqs (lv2 := [(7, .int (yw 0)), (6, .ref x1), (0, .ref v0), (1, .ref v1), (2, .int (yw v2)), (3, .ref v3), (4, .int (yw v4)), (5, .int (yw v5))]) (st2 := []) (by simp only [yl_lit, yL_lit, yw_add, yw_sub, yw_mul, yw_neg, yl_add, yl_sub, yl_mul, cj_and, cj_or, cj_xor, cj_shl, cj_shr, cj_ushr, cj_div, cj_i2c, cj_i2b, cj_dc, ck_and, ck_or, ck_xor, ck_shl, ck_shr, ck_ushr, ck_i2l, ck_l2i, ck_cmp]) rfl ?_
  exact xZ.sub (xsc (.tail _ (.tail _ (.head _))) (xsc (.tail _ (.tail _ (.tail _ (.head _)))) (xsc (.tail _ (.tail _ (.tail _ (.tail _ (.head _))))) (xsc (.tail _ (.tail _ (.tail _ (.tail _ (.tail _ (.head _)))))) (xsc (.tail _ (.tail _ (.tail _ (.tail _ (.tail _ (.tail _ (.head _))))))) (xsc (.tail _ (.tail _ (.tail _ (.tail _ (.tail _ (.tail _ (.tail _ (.head _)))))))) (xsc (.tail _ (.head _)) (xsc (.head _) xsn)))))))) (show ([7, 6, 0, 1, 2, 3, 4, 5] : List Nat).Nodup from by decide) (k_f_Law_areMoved_9 O f d f v0 v1 v2 v3 v4 v5 x1 0 M1)
def f_Series_tell (O : Nat → Option va_E) (f : Nat) (v0 : Nat) (v1 : Int) (M : xM) : Option (Int × xM) :=
  if yw v1 = yw 0 then (
    (gJ O M v0 10 1).bind fun x1 =>
    some (x1, M)
  ) else
  if yw v1 = yw 1 then (
    (gR O M v0 10 6).bind fun x2 =>
    (gJ O M x2 9 0).bind fun x3 =>
    some (x3, M)
  ) else
  if yw v1 = yw 2 then (
    (gJ O M v0 10 2).bind fun x4 =>
    some (x4, M)
  ) else
  if yw v1 = yw 3 then (
    (gJ O M v0 10 3).bind fun x5 =>
    some (x5, M)
  ) else
  if yw v1 = yw 4 then (
    (gJ O M v0 10 4).bind fun x6 =>
    some (x6, M)
  ) else
  if yw v1 = yw 5 then (
    (gJ O M v0 10 5).bind fun x7 =>
    if yw x7 = yw 0 then (
      some (0, M)
    ) else
    some (1, M)
  ) else
  if yw v1 = yw 6 then (
    (gR O M v0 10 6).bind fun x8 =>
    (gJ O M x8 9 1).bind fun x9 =>
    some (x9, M)
  ) else
  if yw v1 = yw 7 then (
    (gR O M v0 10 6).bind fun x10 =>
    (gJ O M x10 9 2).bind fun x11 =>
    some (x11, M)
  ) else
  if yw v1 = yw 8 then (
    (gR O M v0 10 6).bind fun x12 =>
    (gJ O M x12 9 3).bind fun x13 =>
    some (x13, M)
  ) else
  if yw v1 = yw 9 then (
    (gR O M v0 10 6).bind fun x14 =>
    (gJ O M x14 9 4).bind fun x15 =>
    some (x15, M)
  ) else
  if yw v1 = yw 10 then (
    (gR O M v0 10 6).bind fun x16 =>
    (gJ O M x16 9 5).bind fun x17 =>
    some (x17, M)
  ) else
  if yw v1 = yw 11 then (
    (gR O M v0 10 6).bind fun x18 =>
    (gJ O M x18 9 6).bind fun x19 =>
    some (x19, M)
  ) else
  (gJ O M v0 10 7).bind fun x20 =>
  some (x20, M)
set_option maxRecDepth 20000 in
theorem k_f_Series_tell (O : Nat → Option va_E) (f d : Nat) (v0 : Nat) (v1 : Int) (M : xM) : xZ oJ O (d + 0) 127 0 [(0, .ref v0), (1, .int (yw v1))] [] M (f_Series_tell O f v0 v1 M) := by
  unfold f_Series_tell
  refine xZ.adv (me := xm127) hP_127 1 (pc' := 1) (lv' := [(0, .ref v0), (1, .int (yw v1))]) (st' := [.int (yw v1)]) rfl ?_
  refine xZ.cs (fun h1 => ?_) (fun h1 => ?_)
  · refine xZ.one (pc' := 64) (lv' := [(0, .ref v0), (1, .int (yw v1))]) (st' := []) (me := xm127) hP_127 rfl (by rw [h1]; rfl) ?_
    refine xZ.adv (me := xm127) hP_127 1 (pc' := 65) (lv' := [(0, .ref v0), (1, .int (yw v1))]) (st' := [.ref v0]) rfl ?_
    refine xZ.k_gJ (me := xm127) hP_127 rfl (fun x1 => ?_)
    exact xZ.jreti (me := xm127) hP_127 rfl rfl
  refine xZ.cs (fun h2 => ?_) (fun h2 => ?_)
  · refine xZ.one (pc' := 69) (lv' := [(0, .ref v0), (1, .int (yw v1))]) (st' := []) (me := xm127) hP_127 rfl (by rw [h2]; rfl) ?_
    refine xZ.adv (me := xm127) hP_127 1 (pc' := 70) (lv' := [(0, .ref v0), (1, .int (yw v1))]) (st' := [.ref v0]) rfl ?_
    refine xZ.k_gR (me := xm127) hP_127 rfl (fun x2 => ?_)
    refine xZ.k_gJ (me := xm127) hP_127 rfl (fun x3 => ?_)
    exact xZ.jreti (me := xm127) hP_127 rfl rfl
  refine xZ.cs (fun h3 => ?_) (fun h3 => ?_)
  · refine xZ.one (pc' := 77) (lv' := [(0, .ref v0), (1, .int (yw v1))]) (st' := []) (me := xm127) hP_127 rfl (by rw [h3]; rfl) ?_
    refine xZ.adv (me := xm127) hP_127 1 (pc' := 78) (lv' := [(0, .ref v0), (1, .int (yw v1))]) (st' := [.ref v0]) rfl ?_
    refine xZ.k_gJ (me := xm127) hP_127 rfl (fun x4 => ?_)
    exact xZ.jreti (me := xm127) hP_127 rfl rfl
  refine xZ.cs (fun h4 => ?_) (fun h4 => ?_)
  · refine xZ.one (pc' := 82) (lv' := [(0, .ref v0), (1, .int (yw v1))]) (st' := []) (me := xm127) hP_127 rfl (by rw [h4]; rfl) ?_
    refine xZ.adv (me := xm127) hP_127 1 (pc' := 83) (lv' := [(0, .ref v0), (1, .int (yw v1))]) (st' := [.ref v0]) rfl ?_
    refine xZ.k_gJ (me := xm127) hP_127 rfl (fun x5 => ?_)
    exact xZ.jreti (me := xm127) hP_127 rfl rfl
  refine xZ.cs (fun h5 => ?_) (fun h5 => ?_)
  · refine xZ.one (pc' := 87) (lv' := [(0, .ref v0), (1, .int (yw v1))]) (st' := []) (me := xm127) hP_127 rfl (by rw [h5]; rfl) ?_
    refine xZ.adv (me := xm127) hP_127 1 (pc' := 88) (lv' := [(0, .ref v0), (1, .int (yw v1))]) (st' := [.ref v0]) rfl ?_
    refine xZ.k_gJ (me := xm127) hP_127 rfl (fun x6 => ?_)
    exact xZ.jreti (me := xm127) hP_127 rfl rfl
  refine xZ.cs (fun h6 => ?_) (fun h6 => ?_)
  · refine xZ.one (pc' := 92) (lv' := [(0, .ref v0), (1, .int (yw v1))]) (st' := []) (me := xm127) hP_127 rfl (by rw [h6]; rfl) ?_
    refine xZ.adv (me := xm127) hP_127 1 (pc' := 93) (lv' := [(0, .ref v0), (1, .int (yw v1))]) (st' := [.ref v0]) rfl ?_
    refine xZ.k_gJ (me := xm127) hP_127 rfl (fun x7 => ?_)
    refine xZ.jf_eq (me := xm127) hP_127 rfl (fun h7 => ?_) (fun h7 => ?_)
    · skip
      refine xZ.adv (me := xm127) hP_127 1 (pc' := 104) (lv' := [(0, .ref v0), (1, .int (yw v1))]) (st' := [.int (0 : Int32)]) rfl ?_
      refine xZ.eqs (lv2 := [(0, .ref v0), (1, .int (yw v1))]) (st2 := [.int (yw 0)]) rfl (by simp only [yl_lit, yL_lit, yw_add, yw_sub, yw_mul, yw_neg, yl_add, yl_sub, yl_mul, cj_and, cj_or, cj_xor, cj_shl, cj_shr, cj_ushr, cj_div, cj_i2c, cj_i2b, cj_dc, ck_and, ck_or, ck_xor, ck_shl, ck_shr, ck_ushr, ck_i2l, ck_l2i, ck_cmp]) ?_
      exact xZ.jreti (me := xm127) hP_127 rfl rfl
    · skip
      refine xZ.adv (me := xm127) hP_127 2 (pc' := 104) (lv' := [(0, .ref v0), (1, .int (yw v1))]) (st' := [.int (1 : Int32)]) rfl ?_
      refine xZ.eqs (lv2 := [(0, .ref v0), (1, .int (yw v1))]) (st2 := [.int (yw 1)]) rfl (by simp only [yl_lit, yL_lit, yw_add, yw_sub, yw_mul, yw_neg, yl_add, yl_sub, yl_mul, cj_and, cj_or, cj_xor, cj_shl, cj_shr, cj_ushr, cj_div, cj_i2c, cj_i2b, cj_dc, ck_and, ck_or, ck_xor, ck_shl, ck_shr, ck_ushr, ck_i2l, ck_l2i, ck_cmp]) ?_
      exact xZ.jreti (me := xm127) hP_127 rfl rfl
  refine xZ.cs (fun h8 => ?_) (fun h8 => ?_)
  · refine xZ.one (pc' := 105) (lv' := [(0, .ref v0), (1, .int (yw v1))]) (st' := []) (me := xm127) hP_127 rfl (by rw [h8]; rfl) ?_
    refine xZ.adv (me := xm127) hP_127 1 (pc' := 106) (lv' := [(0, .ref v0), (1, .int (yw v1))]) (st' := [.ref v0]) rfl ?_
    refine xZ.k_gR (me := xm127) hP_127 rfl (fun x8 => ?_)
    refine xZ.k_gJ (me := xm127) hP_127 rfl (fun x9 => ?_)
    exact xZ.jreti (me := xm127) hP_127 rfl rfl
  refine xZ.cs (fun h9 => ?_) (fun h9 => ?_)
  · refine xZ.one (pc' := 113) (lv' := [(0, .ref v0), (1, .int (yw v1))]) (st' := []) (me := xm127) hP_127 rfl (by rw [h9]; rfl) ?_
    refine xZ.adv (me := xm127) hP_127 1 (pc' := 114) (lv' := [(0, .ref v0), (1, .int (yw v1))]) (st' := [.ref v0]) rfl ?_
    refine xZ.k_gR (me := xm127) hP_127 rfl (fun x10 => ?_)
    refine xZ.k_gJ (me := xm127) hP_127 rfl (fun x11 => ?_)
    exact xZ.jreti (me := xm127) hP_127 rfl rfl
  refine xZ.cs (fun h10 => ?_) (fun h10 => ?_)
  · refine xZ.one (pc' := 121) (lv' := [(0, .ref v0), (1, .int (yw v1))]) (st' := []) (me := xm127) hP_127 rfl (by rw [h10]; rfl) ?_
    refine xZ.adv (me := xm127) hP_127 1 (pc' := 122) (lv' := [(0, .ref v0), (1, .int (yw v1))]) (st' := [.ref v0]) rfl ?_
    refine xZ.k_gR (me := xm127) hP_127 rfl (fun x12 => ?_)
    refine xZ.k_gJ (me := xm127) hP_127 rfl (fun x13 => ?_)
    exact xZ.jreti (me := xm127) hP_127 rfl rfl
  refine xZ.cs (fun h11 => ?_) (fun h11 => ?_)
  · refine xZ.one (pc' := 129) (lv' := [(0, .ref v0), (1, .int (yw v1))]) (st' := []) (me := xm127) hP_127 rfl (by rw [h11]; rfl) ?_
    refine xZ.adv (me := xm127) hP_127 1 (pc' := 130) (lv' := [(0, .ref v0), (1, .int (yw v1))]) (st' := [.ref v0]) rfl ?_
    refine xZ.k_gR (me := xm127) hP_127 rfl (fun x14 => ?_)
    refine xZ.k_gJ (me := xm127) hP_127 rfl (fun x15 => ?_)
    exact xZ.jreti (me := xm127) hP_127 rfl rfl
  refine xZ.cs (fun h12 => ?_) (fun h12 => ?_)
  · refine xZ.one (pc' := 137) (lv' := [(0, .ref v0), (1, .int (yw v1))]) (st' := []) (me := xm127) hP_127 rfl (by rw [h12]; rfl) ?_
    refine xZ.adv (me := xm127) hP_127 1 (pc' := 138) (lv' := [(0, .ref v0), (1, .int (yw v1))]) (st' := [.ref v0]) rfl ?_
    refine xZ.k_gR (me := xm127) hP_127 rfl (fun x16 => ?_)
    refine xZ.k_gJ (me := xm127) hP_127 rfl (fun x17 => ?_)
    exact xZ.jreti (me := xm127) hP_127 rfl rfl
  refine xZ.cs (fun h13 => ?_) (fun h13 => ?_)
  · refine xZ.one (pc' := 145) (lv' := [(0, .ref v0), (1, .int (yw v1))]) (st' := []) (me := xm127) hP_127 rfl (by rw [h13]; rfl) ?_
    refine xZ.adv (me := xm127) hP_127 1 (pc' := 146) (lv' := [(0, .ref v0), (1, .int (yw v1))]) (st' := [.ref v0]) rfl ?_
    refine xZ.k_gR (me := xm127) hP_127 rfl (fun x18 => ?_)
    refine xZ.k_gJ (me := xm127) hP_127 rfl (fun x19 => ?_)
    exact xZ.jreti (me := xm127) hP_127 rfl rfl
  refine xZ.tsw (pc' := 153) (me := xm127) hP_127 rfl (xsw_out (yw v1) (by decide) [(0 : Int32), (1 : Int32), (2 : Int32), (3 : Int32), (4 : Int32), (5 : Int32), (6 : Int32), (7 : Int32), (8 : Int32), (9 : Int32), (10 : Int32), (11 : Int32)] (by decide) ⟨h1, h2, h3, h4, h5, h6, h8, h9, h10, h11, h12, h13, trivial⟩) rfl rfl ?_
  refine xZ.adv (me := xm127) hP_127 1 (pc' := 154) (lv' := [(0, .ref v0), (1, .int (yw v1))]) (st' := [.ref v0]) rfl ?_
  refine xZ.k_gJ (me := xm127) hP_127 rfl (fun x20 => ?_)
  exact xZ.jreti (me := xm127) hP_127 rfl rfl
def f_Calendarhall_seriesAt (O : Nat → Option va_E) (f : Nat) (v0 : Nat) (v1 : Int) (v2 : Int) (M : xM) : Option (Int × xM) :=
  (isO O M v0 12).bind fun _ =>
  xcl (f_Calendarhall_seriesNumbered O f v0 v1 M) fun x1 M1 =>
  xcl (f_Calendarhall_needRange O f v2 0 12 M1) fun _ M2 =>
  (isO O M2 x1 10).bind fun _ =>
  xcl (f_Series_tell O f x1 v2 M2) fun x3 M3 =>
  some (x3, M3)
set_option maxRecDepth 20000 in
theorem k_f_Calendarhall_seriesAt (O : Nat → Option va_E) (f d : Nat) (v0 : Nat) (v1 : Int) (v2 : Int) (M : xM) : xZ oJ O (d + 2) 126 0 [(0, .ref v0), (1, .int (yw v1)), (2, .int (yw v2))] [] M (f_Calendarhall_seriesAt O f v0 v1 v2 M) := by
  unfold f_Calendarhall_seriesAt
  refine xZ.adv (me := xm126) hP_126 2 (pc' := 2) (lv' := [(0, .ref v0), (1, .int (yw v1)), (2, .int (yw v2))]) (st' := [.int (yw v1), .ref v0]) rfl ?_
  refine xZ.callv (κ := oR) (av := [.int (yw v1)]) (rest := []) (st' := fun x1 => [.ref x1]) (k0 := v0) (me := xm126) hP_126 rfl (Or.inl rfl) ⟨rfl, by decide⟩ rfl rfl (Nat.le_of_ble_eq_true rfl) (by decide) hP_79 (Nat.le_of_ble_eq_true rfl) (fun _ => rfl) (k_f_Calendarhall_seriesNumbered O f (d + 0) v0 v1 M) (fun x1 M1 => ?_)
  refine xZ.adv (me := xm126) hP_126 4 (pc' := 10) (lv' := [(3, .ref x1), (0, .ref v0), (1, .int (yw v1)), (2, .int (yw v2))]) (st' := [.int (12 : Int32), .int (0 : Int32), .int (yw v2)]) rfl ?_
  refine xZ.eqs (lv2 := [(3, .ref x1), (0, .ref v0), (1, .int (yw v1)), (2, .int (yw v2))]) (st2 := [.int (yw 12), .int (yw 0), .int (yw v2)]) rfl (by simp only [yl_lit, yL_lit, yw_add, yw_sub, yw_mul, yw_neg, yl_add, yl_sub, yl_mul, cj_and, cj_or, cj_xor, cj_shl, cj_shr, cj_ushr, cj_div, cj_i2c, cj_i2b, cj_dc, ck_and, ck_or, ck_xor, ck_shl, ck_shr, ck_ushr, ck_i2l, ck_l2i, ck_cmp]) ?_
  refine xZ.calls (κ := oU) (av := [.int (yw v2), .int (yw 0), .int (yw 12)]) (rest := []) (st' := fun _ => []) (me := xm126) hP_126 rfl rfl rfl (Nat.le_of_ble_eq_true rfl) (by decide) hP_22 (Nat.le_of_ble_eq_true rfl) (fun _ => rfl) (k_f_Calendarhall_needRange O f (d + 1) v2 0 12 M1) (fun _ M2 => ?_)
  refine xZ.adv (me := xm126) hP_126 2 (pc' := 15) (lv' := [(3, .ref x1), (0, .ref v0), (1, .int (yw v1)), (2, .int (yw v2))]) (st' := [.int (yw v2), .ref x1]) rfl ?_
  refine xZ.callv (κ := oJ) (av := [.int (yw v2)]) (rest := []) (st' := fun x3 => [.int (yw x3)]) (k0 := x1) (me := xm126) hP_126 rfl (Or.inl rfl) ⟨rfl, by decide⟩ rfl rfl (Nat.le_of_ble_eq_true rfl) (by decide) hP_127 (Nat.le_of_ble_eq_true rfl) (fun _ => rfl) (k_f_Series_tell O f (d + 1) x1 v2 M2) (fun x3 M3 => ?_)
  exact xZ.jreti (me := xm126) hP_126 rfl rfl
def f_Series_dropException (O : Nat → Option va_E) (f : Nat) (v0 : Nat) (v1 : Int) (M : xM) : Option (Unit × xM) :=
  (gJ O M v0 10 7).bind fun x1 =>
  if yw v1 < yw 0 then (
    some ((), M)
  ) else
  if yw (x1 - 1) < yw v1 then (
    some ((), M)
  ) else
  (gR O M v0 10 8).bind fun x2 =>
  (aJN O M x2).bind fun x3 =>
  if yw x3 ≤ yw (x1 - 1) then (
    some ((), M)
  ) else
  (gR O M v0 10 9).bind fun x4 =>
  (aJN O M x4).bind fun x5 =>
  if yw (x1 - 1) < yw x5 then (
    (gR O M v0 10 8).bind fun x6 =>
    (gR O M v0 10 8).bind fun x7 =>
    (aJ O M x7 (x1 - 1)).bind fun x8 =>
    (wJ M x6 v1 x8).bind fun M1 =>
    (gR O M1 v0 10 9).bind fun x9 =>
    (gR O M1 v0 10 9).bind fun x10 =>
    (aJ O M1 x10 (x1 - 1)).bind fun x11 =>
    (wJ M1 x9 v1 x11).bind fun M2 =>
    (pJ M2 v0 10 7 (x1 - 1)).bind fun M3 =>
    some ((), M3)
  ) else
  some ((), M)
set_option maxRecDepth 20000 in
theorem k_f_Series_dropException (O : Nat → Option va_E) (f d : Nat) (v0 : Nat) (v1 : Int) (M : xM) : xZ oU O (d + 0) 130 0 [(0, .ref v0), (1, .int (yw v1))] [] M (f_Series_dropException O f v0 v1 M) := by
  unfold f_Series_dropException
  refine xZ.adv (me := xm130) hP_130 1 (pc' := 1) (lv' := [(0, .ref v0), (1, .int (yw v1))]) (st' := [.ref v0]) rfl ?_
  refine xZ.k_gJ (me := xm130) hP_130 rfl (fun x1 => ?_)
  refine xZ.adv (me := xm130) hP_130 4 (pc' := 8) (lv' := [(2, .int ((yw x1) - (1 : Int32))), (0, .ref v0), (1, .int (yw v1))]) (st' := [.int (yw v1)]) rfl ?_
  refine xZ.eqs (lv2 := [(2, .int (yw (x1 - 1))), (0, .ref v0), (1, .int (yw v1))]) (st2 := [.int (yw v1)]) (by simp only [yl_lit, yL_lit, yw_add, yw_sub, yw_mul, yw_neg, yl_add, yl_sub, yl_mul, cj_and, cj_or, cj_xor, cj_shl, cj_shr, cj_ushr, cj_div, cj_i2c, cj_i2b, cj_dc, ck_and, ck_or, ck_xor, ck_shl, ck_shr, ck_ushr, ck_i2l, ck_l2i, ck_cmp]) rfl ?_
  refine xZ.jf_lt (me := xm130) hP_130 rfl (fun h1 => ?_) (fun h1 => ?_)
  · skip
    exact xZ.retu (me := xm130) hP_130 rfl rfl
  · skip
    refine xZ.adv (me := xm130) hP_130 2 (pc' := 13) (lv' := [(2, .int (yw (x1 - 1))), (0, .ref v0), (1, .int (yw v1))]) (st' := [.int (yw (x1 - 1)), .int (yw v1)]) rfl ?_
    refine xZ.jc_gt (me := xm130) hP_130 rfl (fun h2 => ?_) (fun h2 => ?_)
    · skip
      exact xZ.retu (me := xm130) hP_130 rfl rfl
    · skip
      refine xZ.adv (me := xm130) hP_130 2 (pc' := 18) (lv' := [(2, .int (yw (x1 - 1))), (0, .ref v0), (1, .int (yw v1))]) (st' := [.ref v0, .int (yw (x1 - 1))]) rfl ?_
      refine xZ.k_gR (me := xm130) hP_130 rfl (fun x2 => ?_)
      refine xZ.k_aJN (me := xm130) hP_130 rfl (fun x3 => ?_)
      refine xZ.jc_ge (me := xm130) hP_130 rfl (fun h3 => ?_) (fun h3 => ?_)
      · skip
        exact xZ.retu (me := xm130) hP_130 rfl rfl
      · skip
        refine xZ.adv (me := xm130) hP_130 2 (pc' := 27) (lv' := [(2, .int (yw (x1 - 1))), (0, .ref v0), (1, .int (yw v1))]) (st' := [.ref v0, .int (yw (x1 - 1))]) rfl ?_
        refine xZ.k_gR (me := xm130) hP_130 rfl (fun x4 => ?_)
        refine xZ.k_aJN (me := xm130) hP_130 rfl (fun x5 => ?_)
        refine xZ.jc_lt (me := xm130) hP_130 rfl (fun h4 => ?_) (fun h4 => ?_)
        · skip
          refine xZ.adv (me := xm130) hP_130 1 (pc' := 36) (lv' := [(2, .int (yw (x1 - 1))), (0, .ref v0), (1, .int (yw v1))]) (st' := [.ref v0]) rfl ?_
          refine xZ.k_gR (me := xm130) hP_130 rfl (fun x6 => ?_)
          refine xZ.adv (me := xm130) hP_130 2 (pc' := 41) (lv' := [(2, .int (yw (x1 - 1))), (0, .ref v0), (1, .int (yw v1))]) (st' := [.ref v0, .int (yw v1), .ref x6]) rfl ?_
          refine xZ.k_gR (me := xm130) hP_130 rfl (fun x7 => ?_)
          refine xZ.adv (me := xm130) hP_130 1 (pc' := 45) (lv' := [(2, .int (yw (x1 - 1))), (0, .ref v0), (1, .int (yw v1))]) (st' := [.int (yw (x1 - 1)), .ref x7, .int (yw v1), .ref x6]) rfl ?_
          refine xZ.k_aJ (me := xm130) hP_130 rfl (fun x8 => ?_)
          refine xZ.k_wJ (me := xm130) hP_130 rfl (fun M1 => ?_)
          refine xZ.adv (me := xm130) hP_130 1 (pc' := 48) (lv' := [(2, .int (yw (x1 - 1))), (0, .ref v0), (1, .int (yw v1))]) (st' := [.ref v0]) rfl ?_
          refine xZ.k_gR (me := xm130) hP_130 rfl (fun x9 => ?_)
          refine xZ.adv (me := xm130) hP_130 2 (pc' := 53) (lv' := [(2, .int (yw (x1 - 1))), (0, .ref v0), (1, .int (yw v1))]) (st' := [.ref v0, .int (yw v1), .ref x9]) rfl ?_
          refine xZ.k_gR (me := xm130) hP_130 rfl (fun x10 => ?_)
          refine xZ.adv (me := xm130) hP_130 1 (pc' := 57) (lv' := [(2, .int (yw (x1 - 1))), (0, .ref v0), (1, .int (yw v1))]) (st' := [.int (yw (x1 - 1)), .ref x10, .int (yw v1), .ref x9]) rfl ?_
          refine xZ.k_aJ (me := xm130) hP_130 rfl (fun x11 => ?_)
          refine xZ.k_wJ (me := xm130) hP_130 rfl (fun M2 => ?_)
          refine xZ.adv (me := xm130) hP_130 2 (pc' := 61) (lv' := [(2, .int (yw (x1 - 1))), (0, .ref v0), (1, .int (yw v1))]) (st' := [.int (yw (x1 - 1)), .ref v0]) rfl ?_
          refine xZ.k_pJ (me := xm130) hP_130 rfl (fun M3 => ?_)
          exact xZ.retu (me := xm130) hP_130 rfl rfl
        · skip
          exact xZ.retu (me := xm130) hP_130 rfl rfl
def f_Series_keepExceptions_39 (O : Nat → Option va_E) (f : Nat) (K15 : Nat → Int → Int → Int → xM → Option (Unit × xM)) (v0 : Nat) (v1 : Int) (v2 : Int) (v3 : Int) (M : xM) : Option (Unit × xM) :=
  (isO O M v0 10).bind fun _ =>
  xcl (f_Series_dropException O f v0 v3 M) fun _ M1 =>
  K15 v0 v1 v2 (v3 + (-1)) M1
set_option maxRecDepth 20000 in
theorem k_f_Series_keepExceptions_39 (O : Nat → Option va_E) (f d : Nat) (K15 : Nat → Int → Int → Int → xM → Option (Unit × xM)) (hK15 : ∀ (v0 : Nat) (v1 : Int) (v2 : Int) (v3 : Int) M, xZ oU O (d + 1) 129 15 [(0, .ref v0), (1, .int (yw v1)), (2, .int (yw v2)), (3, .int (yw v3))] [] M (K15 v0 v1 v2 v3 M)) (v0 : Nat) (v1 : Int) (v2 : Int) (v3 : Int) (M : xM) : xZ oU O (d + 1) 129 39 [(0, .ref v0), (1, .int (yw v1)), (2, .int (yw v2)), (3, .int (yw v3))] [] M (f_Series_keepExceptions_39 O f K15 v0 v1 v2 v3 M) := by
  unfold f_Series_keepExceptions_39
  refine xZ.adv (me := xm129) hP_129 2 (pc' := 41) (lv' := [(0, .ref v0), (1, .int (yw v1)), (2, .int (yw v2)), (3, .int (yw v3))]) (st' := [.int (yw v3), .ref v0]) rfl ?_
  refine xZ.callv (κ := oU) (av := [.int (yw v3)]) (rest := []) (st' := fun _ => []) (k0 := v0) (me := xm129) hP_129 rfl (Or.inl rfl) ⟨rfl, by decide⟩ rfl rfl (Nat.le_of_ble_eq_true rfl) (by decide) hP_130 (Nat.le_of_ble_eq_true rfl) (fun _ => rfl) (k_f_Series_dropException O f (d + 0) v0 v3 M) (fun _ M1 => ?_)
  refine xZ.adv (me := xm129) hP_129 2 (pc' := 15) (lv' := [(3, .int ((yw v3) + (-1 : Int32))), (0, .ref v0), (1, .int (yw v1)), (2, .int (yw v2))]) (st' := []) rfl ?_
  refine xZ.eqs (lv2 := [(3, .int (yw (v3 + (-1)))), (0, .ref v0), (1, .int (yw v1)), (2, .int (yw v2))]) (st2 := []) (by simp only [yl_lit, yL_lit, yw_add, yw_sub, yw_mul, yw_neg, yl_add, yl_sub, yl_mul, cj_and, cj_or, cj_xor, cj_shl, cj_shr, cj_ushr, cj_div, cj_i2c, cj_i2b, cj_dc, ck_and, ck_or, ck_xor, ck_shl, ck_shr, ck_ushr, ck_i2l, ck_l2i, ck_cmp]) rfl ?_
  exact xZ.sub (xsc (.tail _ (.head _)) (xsc (.tail _ (.tail _ (.head _))) (xsc (.tail _ (.tail _ (.tail _ (.head _)))) (xsc (.head _) xsn)))) (show ([3, 0, 1, 2] : List Nat).Nodup from by decide) (hK15 v0 v1 v2 (v3 + (-1)) M1)
def f_Series_keepExceptions_15 (O : Nat → Option va_E) (f : Nat) : Nat → Nat → Int → Int → Int → xM → Option (Unit × xM)
  | 0, _, _, _, _, _ => none
  | n + 1, v0, v1, v2, v3, M =>
    if yw v3 < yw 0 then (
      some ((), M)
    ) else
    (gR O M v0 10 8).bind fun x1 =>
    (aJ O M x1 v3).bind fun x2 =>
    if yw x2 < yw v1 then (
      f_Series_keepExceptions_39 O f (f_Series_keepExceptions_15 O f n) v0 v1 v2 v3 M
    ) else
    (gR O M v0 10 8).bind fun x3 =>
    (aJ O M x3 v3).bind fun x4 =>
    if yw x4 ≤ yw v2 then (
      f_Series_keepExceptions_15 O f n v0 v1 v2 (v3 + (-1)) M
    ) else
    f_Series_keepExceptions_39 O f (f_Series_keepExceptions_15 O f n) v0 v1 v2 v3 M
set_option maxRecDepth 20000 in
theorem k_f_Series_keepExceptions_15 (O : Nat → Option va_E) (f d : Nat) : ∀ (n : Nat) (v0 : Nat) (v1 : Int) (v2 : Int) (v3 : Int) (M : xM), xZ oU O (d + 1) 129 15 [(0, .ref v0), (1, .int (yw v1)), (2, .int (yw v2)), (3, .int (yw v3))] [] M (f_Series_keepExceptions_15 O f n v0 v1 v2 v3 M) := by
  intro n
  induction n with
  | zero =>
    intro v0 v1 v2 v3 M
    exact xZ.no
  | succ n ih =>
    intro v0 v1 v2 v3 M
    unfold f_Series_keepExceptions_15
    refine xZ.adv (me := xm129) hP_129 1 (pc' := 16) (lv' := [(0, .ref v0), (1, .int (yw v1)), (2, .int (yw v2)), (3, .int (yw v3))]) (st' := [.int (yw v3)]) rfl ?_
    refine xZ.jf_lt (me := xm129) hP_129 rfl (fun h1 => ?_) (fun h1 => ?_)
    · skip
      exact xZ.retu (me := xm129) hP_129 rfl rfl
    · skip
      refine xZ.adv (me := xm129) hP_129 1 (pc' := 20) (lv' := [(0, .ref v0), (1, .int (yw v1)), (2, .int (yw v2)), (3, .int (yw v3))]) (st' := [.ref v0]) rfl ?_
      refine xZ.k_gR (me := xm129) hP_129 rfl (fun x1 => ?_)
      refine xZ.adv (me := xm129) hP_129 1 (pc' := 24) (lv' := [(0, .ref v0), (1, .int (yw v1)), (2, .int (yw v2)), (3, .int (yw v3))]) (st' := [.int (yw v3), .ref x1]) rfl ?_
      refine xZ.k_aJ (me := xm129) hP_129 rfl (fun x2 => ?_)
      refine xZ.adv (me := xm129) hP_129 1 (pc' := 26) (lv' := [(0, .ref v0), (1, .int (yw v1)), (2, .int (yw v2)), (3, .int (yw v3))]) (st' := [.int (yw v1), .int (yw x2)]) rfl ?_
      refine xZ.jc_lt (me := xm129) hP_129 rfl (fun h2 => ?_) (fun h2 => ?_)
      · skip
        exact (k_f_Series_keepExceptions_39 O f d (f_Series_keepExceptions_15 O f n) ih v0 v1 v2 v3 M)
      · skip
        refine xZ.adv (me := xm129) hP_129 1 (pc' := 30) (lv' := [(0, .ref v0), (1, .int (yw v1)), (2, .int (yw v2)), (3, .int (yw v3))]) (st' := [.ref v0]) rfl ?_
        refine xZ.k_gR (me := xm129) hP_129 rfl (fun x3 => ?_)
        refine xZ.adv (me := xm129) hP_129 1 (pc' := 34) (lv' := [(0, .ref v0), (1, .int (yw v1)), (2, .int (yw v2)), (3, .int (yw v3))]) (st' := [.int (yw v3), .ref x3]) rfl ?_
        refine xZ.k_aJ (me := xm129) hP_129 rfl (fun x4 => ?_)
        refine xZ.adv (me := xm129) hP_129 1 (pc' := 36) (lv' := [(0, .ref v0), (1, .int (yw v1)), (2, .int (yw v2)), (3, .int (yw v3))]) (st' := [.int (yw v2), .int (yw x4)]) rfl ?_
        refine xZ.jc_le (me := xm129) hP_129 rfl (fun h3 => ?_) (fun h3 => ?_)
        · skip
          refine xZ.adv (me := xm129) hP_129 2 (pc' := 15) (lv' := [(3, .int ((yw v3) + (-1 : Int32))), (0, .ref v0), (1, .int (yw v1)), (2, .int (yw v2))]) (st' := []) rfl ?_
          refine xZ.eqs (lv2 := [(3, .int (yw (v3 + (-1)))), (0, .ref v0), (1, .int (yw v1)), (2, .int (yw v2))]) (st2 := []) (by simp only [yl_lit, yL_lit, yw_add, yw_sub, yw_mul, yw_neg, yl_add, yl_sub, yl_mul, cj_and, cj_or, cj_xor, cj_shl, cj_shr, cj_ushr, cj_div, cj_i2c, cj_i2b, cj_dc, ck_and, ck_or, ck_xor, ck_shl, ck_shr, ck_ushr, ck_i2l, ck_l2i, ck_cmp]) rfl ?_
          exact xZ.sub (xsc (.tail _ (.head _)) (xsc (.tail _ (.tail _ (.head _))) (xsc (.tail _ (.tail _ (.tail _ (.head _)))) (xsc (.head _) xsn)))) (show ([3, 0, 1, 2] : List Nat).Nodup from by decide) (ih v0 v1 v2 (v3 + (-1)) M)
        · skip
          exact (k_f_Series_keepExceptions_39 O f d (f_Series_keepExceptions_15 O f n) ih v0 v1 v2 v3 M)
def f_Series_keepExceptions (O : Nat → Option va_E) (f : Nat) (v0 : Nat) (v1 : Int) (v2 : Int) (M : xM) : Option (Unit × xM) :=
  (gJ O M v0 10 7).bind fun x1 =>
  (gR O M v0 10 8).bind fun x2 =>
  (aJN O M x2).bind fun x3 =>
  xcl (f_Math_min O f x1 x3 M) fun x4 M1 =>
  f_Series_keepExceptions_15 O f f v0 v1 v2 (x4 - 1) M1
set_option maxRecDepth 20000 in
theorem k_f_Series_keepExceptions (O : Nat → Option va_E) (f d : Nat) (v0 : Nat) (v1 : Int) (v2 : Int) (M : xM) : xZ oU O (d + 1) 129 0 [(0, .ref v0), (1, .int (yw v1)), (2, .int (yw v2))] [] M (f_Series_keepExceptions O f v0 v1 v2 M) := by
  unfold f_Series_keepExceptions
  refine xZ.adv (me := xm129) hP_129 1 (pc' := 1) (lv' := [(0, .ref v0), (1, .int (yw v1)), (2, .int (yw v2))]) (st' := [.ref v0]) rfl ?_
  refine xZ.k_gJ (me := xm129) hP_129 rfl (fun x1 => ?_)
  refine xZ.adv (me := xm129) hP_129 1 (pc' := 5) (lv' := [(0, .ref v0), (1, .int (yw v1)), (2, .int (yw v2))]) (st' := [.ref v0, .int (yw x1)]) rfl ?_
  refine xZ.k_gR (me := xm129) hP_129 rfl (fun x2 => ?_)
  refine xZ.k_aJN (me := xm129) hP_129 rfl (fun x3 => ?_)
  refine xZ.calls (κ := oJ) (av := [.int (yw x1), .int (yw x3)]) (rest := []) (st' := fun x4 => [.int (yw x4)]) (me := xm129) hP_129 rfl rfl rfl (Nat.le_of_ble_eq_true rfl) (by decide) hP_248 (Nat.le_of_ble_eq_true rfl) (fun _ => rfl) (k_f_Math_min O f (d + 0) x1 x3 M) (fun x4 M1 => ?_)
  refine xZ.adv (me := xm129) hP_129 3 (pc' := 15) (lv' := [(3, .int ((yw x4) - (1 : Int32))), (0, .ref v0), (1, .int (yw v1)), (2, .int (yw v2))]) (st' := []) rfl ?_
  refine xZ.eqs (lv2 := [(3, .int (yw (x4 - 1))), (0, .ref v0), (1, .int (yw v1)), (2, .int (yw v2))]) (st2 := []) (by simp only [yl_lit, yL_lit, yw_add, yw_sub, yw_mul, yw_neg, yl_add, yl_sub, yl_mul, cj_and, cj_or, cj_xor, cj_shl, cj_shr, cj_ushr, cj_div, cj_i2c, cj_i2b, cj_dc, ck_and, ck_or, ck_xor, ck_shl, ck_shr, ck_ushr, ck_i2l, ck_l2i, ck_cmp]) rfl ?_
  exact xZ.sub (xsc (.tail _ (.head _)) (xsc (.tail _ (.tail _ (.head _))) (xsc (.tail _ (.tail _ (.tail _ (.head _)))) (xsc (.head _) xsn)))) (show ([3, 0, 1, 2] : List Nat).Nodup from by decide) (k_f_Series_keepExceptions_15 O f d f v0 v1 v2 (x4 - 1) M1)
def f_Rule_beginAt_28 (O : Nat → Option va_E) (f : Nat) (v0 : Nat) (v1 : Int) (M : xM) : Option (Unit × xM) :=
  (pJ M v0 9 0 v1).bind fun M1 =>
  some ((), M1)
set_option maxRecDepth 20000 in
theorem k_f_Rule_beginAt_28 (O : Nat → Option va_E) (f d : Nat) (v0 : Nat) (v1 : Int) (M : xM) : xZ oU O (d + 5) 131 28 [(0, .ref v0), (1, .int (yw v1))] [] M (f_Rule_beginAt_28 O f v0 v1 M) := by
  unfold f_Rule_beginAt_28
  refine xZ.adv (me := xm131) hP_131 2 (pc' := 30) (lv' := [(0, .ref v0), (1, .int (yw v1))]) (st' := [.int (yw v1), .ref v0]) rfl ?_
  refine xZ.k_pJ (me := xm131) hP_131 rfl (fun M1 => ?_)
  exact xZ.retu (me := xm131) hP_131 rfl rfl
def f_Rule_beginAt (O : Nat → Option va_E) (f : Nat) (v0 : Nat) (v1 : Int) (M : xM) : Option (Unit × xM) :=
  (gJ O M v0 9 5).bind fun x1 =>
  if yw x1 = yw 1 then (
    (gJ O M v0 9 6).bind fun x2 =>
    (gJ O M v0 9 0).bind fun x3 =>
    (isO O M v0 9).bind fun _ =>
    xcl (f_Rule_count O f v0 x3 (v1 - 1) M) fun x4 M1 =>
    (pJ M1 v0 9 6 (x2 - x4)).bind fun M2 =>
    f_Rule_beginAt_28 O f v0 v1 M2
  ) else
  f_Rule_beginAt_28 O f v0 v1 M
set_option maxRecDepth 20000 in
theorem k_f_Rule_beginAt (O : Nat → Option va_E) (f d : Nat) (v0 : Nat) (v1 : Int) (M : xM) : xZ oU O (d + 5) 131 0 [(0, .ref v0), (1, .int (yw v1))] [] M (f_Rule_beginAt O f v0 v1 M) := by
  unfold f_Rule_beginAt
  refine xZ.adv (me := xm131) hP_131 1 (pc' := 1) (lv' := [(0, .ref v0), (1, .int (yw v1))]) (st' := [.ref v0]) rfl ?_
  refine xZ.k_gJ (me := xm131) hP_131 rfl (fun x1 => ?_)
  refine xZ.adv (me := xm131) hP_131 1 (pc' := 5) (lv' := [(0, .ref v0), (1, .int (yw v1))]) (st' := [.int (1 : Int32), .int (yw x1)]) rfl ?_
  refine xZ.eqs (lv2 := [(0, .ref v0), (1, .int (yw v1))]) (st2 := [.int (yw 1), .int (yw x1)]) rfl (by simp only [yl_lit, yL_lit, yw_add, yw_sub, yw_mul, yw_neg, yl_add, yl_sub, yl_mul, cj_and, cj_or, cj_xor, cj_shl, cj_shr, cj_ushr, cj_div, cj_i2c, cj_i2b, cj_dc, ck_and, ck_or, ck_xor, ck_shl, ck_shr, ck_ushr, ck_i2l, ck_l2i, ck_cmp]) ?_
  refine xZ.jc_ne (me := xm131) hP_131 rfl (fun h1 => ?_) (fun h1 => ?_)
  · skip
    refine xZ.adv (me := xm131) hP_131 2 (pc' := 10) (lv' := [(0, .ref v0), (1, .int (yw v1))]) (st' := [.ref v0, .ref v0]) rfl ?_
    refine xZ.k_gJ (me := xm131) hP_131 rfl (fun x2 => ?_)
    refine xZ.adv (me := xm131) hP_131 2 (pc' := 15) (lv' := [(0, .ref v0), (1, .int (yw v1))]) (st' := [.ref v0, .ref v0, .int (yw x2), .ref v0]) rfl ?_
    refine xZ.k_gJ (me := xm131) hP_131 rfl (fun x3 => ?_)
    refine xZ.adv (me := xm131) hP_131 3 (pc' := 21) (lv' := [(0, .ref v0), (1, .int (yw v1))]) (st' := [.int ((yw v1) - (1 : Int32)), .int (yw x3), .ref v0, .int (yw x2), .ref v0]) rfl ?_
    refine xZ.eqs (lv2 := [(0, .ref v0), (1, .int (yw v1))]) (st2 := [.int (yw (v1 - 1)), .int (yw x3), .ref v0, .int (yw x2), .ref v0]) rfl (by simp only [yl_lit, yL_lit, yw_add, yw_sub, yw_mul, yw_neg, yl_add, yl_sub, yl_mul, cj_and, cj_or, cj_xor, cj_shl, cj_shr, cj_ushr, cj_div, cj_i2c, cj_i2b, cj_dc, ck_and, ck_or, ck_xor, ck_shl, ck_shr, ck_ushr, ck_i2l, ck_l2i, ck_cmp]) ?_
    refine xZ.callv (κ := oJ) (av := [.int (yw x3), .int (yw (v1 - 1))]) (rest := [.int (yw x2), .ref v0]) (st' := fun x4 => [.int (yw x4), .int (yw x2), .ref v0]) (k0 := v0) (me := xm131) hP_131 rfl (Or.inl rfl) ⟨rfl, by decide⟩ rfl rfl (Nat.le_of_ble_eq_true rfl) (by decide) hP_94 (Nat.le_of_ble_eq_true rfl) (fun _ => rfl) (k_f_Rule_count O f (d + 0) v0 x3 (v1 - 1) M) (fun x4 M1 => ?_)
    refine xZ.adv (me := xm131) hP_131 1 (pc' := 25) (lv' := [(0, .ref v0), (1, .int (yw v1))]) (st' := [.int ((yw x2) - (yw x4)), .ref v0]) rfl ?_
    refine xZ.eqs (lv2 := [(0, .ref v0), (1, .int (yw v1))]) (st2 := [.int (yw (x2 - x4)), .ref v0]) rfl (by simp only [yl_lit, yL_lit, yw_add, yw_sub, yw_mul, yw_neg, yl_add, yl_sub, yl_mul, cj_and, cj_or, cj_xor, cj_shl, cj_shr, cj_ushr, cj_div, cj_i2c, cj_i2b, cj_dc, ck_and, ck_or, ck_xor, ck_shl, ck_shr, ck_ushr, ck_i2l, ck_l2i, ck_cmp]) ?_
    refine xZ.k_pJ (me := xm131) hP_131 rfl (fun M2 => ?_)
    exact (k_f_Rule_beginAt_28 O f d v0 v1 M2)
  · skip
    exact (k_f_Rule_beginAt_28 O f d v0 v1 M)
def f_Calendarhall_fromHere (O : Nat → Option va_E) (f : Nat) (v0 : Nat) (v1 : Int) (v2 : Int) (v3 : Int) (v4 : Int) (M : xM) : Option (Int × xM) :=
  (isO O M v0 12).bind fun _ =>
  xcl (f_Calendarhall_seriesNumbered O f v0 v1 M) fun x1 M1 =>
  xcl (f_Calendarhall_needRange O f v3 0 1439 M1) fun _ M2 =>
  xcl (f_Calendarhall_needRange O f v4 1 600 M2) fun _ M3 =>
  (gR O M3 x1 10 6).bind fun x4 =>
  (isO O M3 x4 9).bind fun _ =>
  xcl (f_Rule_isDay O f x4 v2 M3) fun x5 M4 =>
  if yw x5 = yw 0 then (
    none
  ) else
  (gR O M4 x1 10 6).bind fun x6 =>
  (isO O M4 x6 9).bind fun _ =>
  xcl (f_Rule_next O f x6 10 M4) fun x7 M5 =>
  if yw x7 = yw v2 then (
    none
  ) else
  (gR O M5 v0 12 0).bind fun x8 =>
  (isO O M5 x8 4).bind fun _ =>
  xcl (f_Hall_freeSeries O f x8 M5) fun x9 M6 =>
  if yw x9 = yw (-1) then (
    none
  ) else
  (isO O M6 v0 12).bind fun _ =>
  xcl (f_Calendarhall_saveForUndo O f v0 M6) fun _ M7 =>
  (gR O M7 v0 12 0).bind fun x11 =>
  (isO O M7 x11 4).bind fun _ =>
  xcl (f_Hall_anySeries O f x11 x9 M7) fun x12 M8 =>
  (isO O M8 x12 10).bind fun _ =>
  xcl (f_Series_copyFrom O f x12 x1 M8) fun _ M9 =>
  (pJ M9 x12 10 2 v3).bind fun M10 =>
  (pJ M10 x12 10 3 v4).bind fun M11 =>
  (isO O M11 x12 10).bind fun _ =>
  xcl (f_Series_keepExceptions O f x12 v2 146000 M11) fun _ M12 =>
  (gR O M12 x12 10 6).bind fun x15 =>
  (isO O M12 x15 9).bind fun _ =>
  xcl (f_Rule_beginAt O f x15 v2 M12) fun _ M13 =>
  (isO O M13 x1 10).bind fun _ =>
  xcl (f_Series_keepExceptions O f x1 10 (v2 - 1) M13) fun _ M14 =>
  (gR O M14 x1 10 6).bind fun x18 =>
  (isO O M14 x18 9).bind fun _ =>
  xcl (f_Rule_putEnd O f x18 2 (v2 - 1) M14) fun _ M15 =>
  (gR O M15 x1 10 6).bind fun x20 =>
  (isO O M15 x20 9).bind fun _ =>
  xcl (f_Rule_settle O f x20 M15) fun _ M16 =>
  some (x9, M16)
set_option maxRecDepth 20000 in
theorem k_f_Calendarhall_fromHere (O : Nat → Option va_E) (f d : Nat) (v0 : Nat) (v1 : Int) (v2 : Int) (v3 : Int) (v4 : Int) (M : xM) : xZ oJ O (d + 7) 128 0 [(0, .ref v0), (1, .int (yw v1)), (2, .int (yw v2)), (3, .int (yw v3)), (4, .int (yw v4))] [] M (f_Calendarhall_fromHere O f v0 v1 v2 v3 v4 M) := by
  unfold f_Calendarhall_fromHere
  refine xZ.adv (me := xm128) hP_128 2 (pc' := 2) (lv' := [(0, .ref v0), (1, .int (yw v1)), (2, .int (yw v2)), (3, .int (yw v3)), (4, .int (yw v4))]) (st' := [.int (yw v1), .ref v0]) rfl ?_
  refine xZ.callv (κ := oR) (av := [.int (yw v1)]) (rest := []) (st' := fun x1 => [.ref x1]) (k0 := v0) (me := xm128) hP_128 rfl (Or.inl rfl) ⟨rfl, by decide⟩ rfl rfl (Nat.le_of_ble_eq_true rfl) (by decide) hP_79 (Nat.le_of_ble_eq_true rfl) (fun _ => rfl) (k_f_Calendarhall_seriesNumbered O f (d + 5) v0 v1 M) (fun x1 M1 => ?_)
  refine xZ.adv (me := xm128) hP_128 4 (pc' := 12) (lv' := [(5, .ref x1), (0, .ref v0), (1, .int (yw v1)), (2, .int (yw v2)), (3, .int (yw v3)), (4, .int (yw v4))]) (st' := [.int (1439 : Int32), .int (0 : Int32), .int (yw v3)]) rfl ?_
  refine xZ.eqs (lv2 := [(5, .ref x1), (0, .ref v0), (1, .int (yw v1)), (2, .int (yw v2)), (3, .int (yw v3)), (4, .int (yw v4))]) (st2 := [.int (yw 1439), .int (yw 0), .int (yw v3)]) rfl (by simp only [yl_lit, yL_lit, yw_add, yw_sub, yw_mul, yw_neg, yl_add, yl_sub, yl_mul, cj_and, cj_or, cj_xor, cj_shl, cj_shr, cj_ushr, cj_div, cj_i2c, cj_i2b, cj_dc, ck_and, ck_or, ck_xor, ck_shl, ck_shr, ck_ushr, ck_i2l, ck_l2i, ck_cmp]) ?_
  refine xZ.calls (κ := oU) (av := [.int (yw v3), .int (yw 0), .int (yw 1439)]) (rest := []) (st' := fun _ => []) (me := xm128) hP_128 rfl rfl rfl (Nat.le_of_ble_eq_true rfl) (by decide) hP_22 (Nat.le_of_ble_eq_true rfl) (fun _ => rfl) (k_f_Calendarhall_needRange O f (d + 6) v3 0 1439 M1) (fun _ M2 => ?_)
  refine xZ.adv (me := xm128) hP_128 3 (pc' := 21) (lv' := [(5, .ref x1), (0, .ref v0), (1, .int (yw v1)), (2, .int (yw v2)), (3, .int (yw v3)), (4, .int (yw v4))]) (st' := [.int (600 : Int32), .int (1 : Int32), .int (yw v4)]) rfl ?_
  refine xZ.eqs (lv2 := [(5, .ref x1), (0, .ref v0), (1, .int (yw v1)), (2, .int (yw v2)), (3, .int (yw v3)), (4, .int (yw v4))]) (st2 := [.int (yw 600), .int (yw 1), .int (yw v4)]) rfl (by simp only [yl_lit, yL_lit, yw_add, yw_sub, yw_mul, yw_neg, yl_add, yl_sub, yl_mul, cj_and, cj_or, cj_xor, cj_shl, cj_shr, cj_ushr, cj_div, cj_i2c, cj_i2b, cj_dc, ck_and, ck_or, ck_xor, ck_shl, ck_shr, ck_ushr, ck_i2l, ck_l2i, ck_cmp]) ?_
  refine xZ.calls (κ := oU) (av := [.int (yw v4), .int (yw 1), .int (yw 600)]) (rest := []) (st' := fun _ => []) (me := xm128) hP_128 rfl rfl rfl (Nat.le_of_ble_eq_true rfl) (by decide) hP_22 (Nat.le_of_ble_eq_true rfl) (fun _ => rfl) (k_f_Calendarhall_needRange O f (d + 6) v4 1 600 M2) (fun _ M3 => ?_)
  refine xZ.adv (me := xm128) hP_128 1 (pc' := 26) (lv' := [(5, .ref x1), (0, .ref v0), (1, .int (yw v1)), (2, .int (yw v2)), (3, .int (yw v3)), (4, .int (yw v4))]) (st' := [.ref x1]) rfl ?_
  refine xZ.k_gR (me := xm128) hP_128 rfl (fun x4 => ?_)
  refine xZ.adv (me := xm128) hP_128 1 (pc' := 30) (lv' := [(5, .ref x1), (0, .ref v0), (1, .int (yw v1)), (2, .int (yw v2)), (3, .int (yw v3)), (4, .int (yw v4))]) (st' := [.int (yw v2), .ref x4]) rfl ?_
  refine xZ.callv (κ := oJ) (av := [.int (yw v2)]) (rest := []) (st' := fun x5 => [.int (yw x5)]) (k0 := x4) (me := xm128) hP_128 rfl (Or.inl rfl) ⟨rfl, by decide⟩ rfl rfl (Nat.le_of_ble_eq_true rfl) (by decide) hP_99 (Nat.le_of_ble_eq_true rfl) (fun _ => rfl) (k_f_Rule_isDay O f (d + 3) x4 v2 M3) (fun x5 M4 => ?_)
  refine xZ.jf_eq (me := xm128) hP_128 rfl (fun h1 => ?_) (fun h1 => ?_)
  · skip
    exact xZ.no
  · skip
    refine xZ.adv (me := xm128) hP_128 1 (pc' := 38) (lv' := [(5, .ref x1), (0, .ref v0), (1, .int (yw v1)), (2, .int (yw v2)), (3, .int (yw v3)), (4, .int (yw v4))]) (st' := [.ref x1]) rfl ?_
    refine xZ.k_gR (me := xm128) hP_128 rfl (fun x6 => ?_)
    refine xZ.adv (me := xm128) hP_128 1 (pc' := 43) (lv' := [(5, .ref x1), (0, .ref v0), (1, .int (yw v1)), (2, .int (yw v2)), (3, .int (yw v3)), (4, .int (yw v4))]) (st' := [.int (10 : Int32), .ref x6]) rfl ?_
    refine xZ.eqs (lv2 := [(5, .ref x1), (0, .ref v0), (1, .int (yw v1)), (2, .int (yw v2)), (3, .int (yw v3)), (4, .int (yw v4))]) (st2 := [.int (yw 10), .ref x6]) rfl (by simp only [yl_lit, yL_lit, yw_add, yw_sub, yw_mul, yw_neg, yl_add, yl_sub, yl_mul, cj_and, cj_or, cj_xor, cj_shl, cj_shr, cj_ushr, cj_div, cj_i2c, cj_i2b, cj_dc, ck_and, ck_or, ck_xor, ck_shl, ck_shr, ck_ushr, ck_i2l, ck_l2i, ck_cmp]) ?_
    refine xZ.callv (κ := oJ) (av := [.int (yw 10)]) (rest := []) (st' := fun x7 => [.int (yw x7)]) (k0 := x6) (me := xm128) hP_128 rfl (Or.inl rfl) ⟨rfl, by decide⟩ rfl rfl (Nat.le_of_ble_eq_true rfl) (by decide) hP_45 (Nat.le_of_ble_eq_true rfl) (fun _ => rfl) (k_f_Rule_next O f (d + 2) x6 10 M4) (fun x7 M5 => ?_)
    refine xZ.adv (me := xm128) hP_128 1 (pc' := 47) (lv' := [(5, .ref x1), (0, .ref v0), (1, .int (yw v1)), (2, .int (yw v2)), (3, .int (yw v3)), (4, .int (yw v4))]) (st' := [.int (yw v2), .int (yw x7)]) rfl ?_
    refine xZ.jc_ne (me := xm128) hP_128 rfl (fun h2 => ?_) (fun h2 => ?_)
    · skip
      exact xZ.no
    · skip
      refine xZ.adv (me := xm128) hP_128 1 (pc' := 59) (lv' := [(5, .ref x1), (0, .ref v0), (1, .int (yw v1)), (2, .int (yw v2)), (3, .int (yw v3)), (4, .int (yw v4))]) (st' := [.ref v0]) rfl ?_
      refine xZ.k_gR (me := xm128) hP_128 rfl (fun x8 => ?_)
      refine xZ.callv (κ := oJ) (av := []) (rest := []) (st' := fun x9 => [.int (yw x9)]) (k0 := x8) (me := xm128) hP_128 rfl (Or.inl rfl) ⟨rfl, by decide⟩ rfl rfl (Nat.le_of_ble_eq_true rfl) (by decide) hP_38 (Nat.le_of_ble_eq_true rfl) (fun _ => rfl) (k_f_Hall_freeSeries O f (d + 6) x8 M5) (fun x9 M6 => ?_)
      refine xZ.adv (me := xm128) hP_128 3 (pc' := 70) (lv' := [(6, .int (yw x9)), (5, .ref x1), (0, .ref v0), (1, .int (yw v1)), (2, .int (yw v2)), (3, .int (yw v3)), (4, .int (yw v4))]) (st' := [.int (-1 : Int32), .int (yw x9)]) rfl ?_
      refine xZ.eqs (lv2 := [(6, .int (yw x9)), (5, .ref x1), (0, .ref v0), (1, .int (yw v1)), (2, .int (yw v2)), (3, .int (yw v3)), (4, .int (yw v4))]) (st2 := [.int (yw (-1)), .int (yw x9)]) rfl (by simp only [yl_lit, yL_lit, yw_add, yw_sub, yw_mul, yw_neg, yl_add, yl_sub, yl_mul, cj_and, cj_or, cj_xor, cj_shl, cj_shr, cj_ushr, cj_div, cj_i2c, cj_i2b, cj_dc, ck_and, ck_or, ck_xor, ck_shl, ck_shr, ck_ushr, ck_i2l, ck_l2i, ck_cmp]) ?_
      refine xZ.jc_ne (me := xm128) hP_128 rfl (fun h3 => ?_) (fun h3 => ?_)
      · skip
        exact xZ.no
      · skip
        refine xZ.adv (me := xm128) hP_128 1 (pc' := 82) (lv' := [(6, .int (yw x9)), (5, .ref x1), (0, .ref v0), (1, .int (yw v1)), (2, .int (yw v2)), (3, .int (yw v3)), (4, .int (yw v4))]) (st' := [.ref v0]) rfl ?_
        refine xZ.callv (κ := oU) (av := []) (rest := []) (st' := fun _ => []) (k0 := v0) (me := xm128) hP_128 rfl (Or.inl rfl) ⟨rfl, by decide⟩ rfl rfl (Nat.le_of_ble_eq_true rfl) (by decide) hP_23 (Nat.le_of_ble_eq_true rfl) (fun _ => rfl) (k_f_Calendarhall_saveForUndo O f (d + 2) v0 M6) (fun _ M7 => ?_)
        refine xZ.adv (me := xm128) hP_128 1 (pc' := 86) (lv' := [(6, .int (yw x9)), (5, .ref x1), (0, .ref v0), (1, .int (yw v1)), (2, .int (yw v2)), (3, .int (yw v3)), (4, .int (yw v4))]) (st' := [.ref v0]) rfl ?_
        refine xZ.k_gR (me := xm128) hP_128 rfl (fun x11 => ?_)
        refine xZ.adv (me := xm128) hP_128 1 (pc' := 91) (lv' := [(6, .int (yw x9)), (5, .ref x1), (0, .ref v0), (1, .int (yw v1)), (2, .int (yw v2)), (3, .int (yw v3)), (4, .int (yw v4))]) (st' := [.int (yw x9), .ref x11]) rfl ?_
        refine xZ.callv (κ := oR) (av := [.int (yw x9)]) (rest := []) (st' := fun x12 => [.ref x12]) (k0 := x11) (me := xm128) hP_128 rfl (Or.inl rfl) ⟨rfl, by decide⟩ rfl rfl (Nat.le_of_ble_eq_true rfl) (by decide) hP_29 (Nat.le_of_ble_eq_true rfl) (fun _ => rfl) (k_f_Hall_anySeries O f (d + 6) x11 x9 M7) (fun x12 M8 => ?_)
        refine xZ.adv (me := xm128) hP_128 3 (pc' := 100) (lv' := [(7, .ref x12), (6, .int (yw x9)), (5, .ref x1), (0, .ref v0), (1, .int (yw v1)), (2, .int (yw v2)), (3, .int (yw v3)), (4, .int (yw v4))]) (st' := [.ref x1, .ref x12]) rfl ?_
        refine xZ.callv (κ := oU) (av := [.ref x1]) (rest := []) (st' := fun _ => []) (k0 := x12) (me := xm128) hP_128 rfl (Or.inl rfl) ⟨rfl, by decide⟩ rfl rfl (Nat.le_of_ble_eq_true rfl) (by decide) hP_30 (Nat.le_of_ble_eq_true rfl) (fun _ => rfl) (k_f_Series_copyFrom O f (d + 4) x12 x1 M8) (fun _ M9 => ?_)
        refine xZ.adv (me := xm128) hP_128 2 (pc' := 106) (lv' := [(7, .ref x12), (6, .int (yw x9)), (5, .ref x1), (0, .ref v0), (1, .int (yw v1)), (2, .int (yw v2)), (3, .int (yw v3)), (4, .int (yw v4))]) (st' := [.int (yw v3), .ref x12]) rfl ?_
        refine xZ.k_pJ (me := xm128) hP_128 rfl (fun M10 => ?_)
        refine xZ.adv (me := xm128) hP_128 2 (pc' := 113) (lv' := [(7, .ref x12), (6, .int (yw x9)), (5, .ref x1), (0, .ref v0), (1, .int (yw v1)), (2, .int (yw v2)), (3, .int (yw v3)), (4, .int (yw v4))]) (st' := [.int (yw v4), .ref x12]) rfl ?_
        refine xZ.k_pJ (me := xm128) hP_128 rfl (fun M11 => ?_)
        refine xZ.adv (me := xm128) hP_128 3 (pc' := 121) (lv' := [(7, .ref x12), (6, .int (yw x9)), (5, .ref x1), (0, .ref v0), (1, .int (yw v1)), (2, .int (yw v2)), (3, .int (yw v3)), (4, .int (yw v4))]) (st' := [.int (146000 : Int32), .int (yw v2), .ref x12]) rfl ?_
        refine xZ.eqs (lv2 := [(7, .ref x12), (6, .int (yw x9)), (5, .ref x1), (0, .ref v0), (1, .int (yw v1)), (2, .int (yw v2)), (3, .int (yw v3)), (4, .int (yw v4))]) (st2 := [.int (yw 146000), .int (yw v2), .ref x12]) rfl (by simp only [yl_lit, yL_lit, yw_add, yw_sub, yw_mul, yw_neg, yl_add, yl_sub, yl_mul, cj_and, cj_or, cj_xor, cj_shl, cj_shr, cj_ushr, cj_div, cj_i2c, cj_i2b, cj_dc, ck_and, ck_or, ck_xor, ck_shl, ck_shr, ck_ushr, ck_i2l, ck_l2i, ck_cmp]) ?_
        refine xZ.callv (κ := oU) (av := [.int (yw v2), .int (yw 146000)]) (rest := []) (st' := fun _ => []) (k0 := x12) (me := xm128) hP_128 rfl (Or.inl rfl) ⟨rfl, by decide⟩ rfl rfl (Nat.le_of_ble_eq_true rfl) (by decide) hP_129 (Nat.le_of_ble_eq_true rfl) (fun _ => rfl) (k_f_Series_keepExceptions O f (d + 5) x12 v2 146000 M11) (fun _ M12 => ?_)
        refine xZ.adv (me := xm128) hP_128 1 (pc' := 126) (lv' := [(7, .ref x12), (6, .int (yw x9)), (5, .ref x1), (0, .ref v0), (1, .int (yw v1)), (2, .int (yw v2)), (3, .int (yw v3)), (4, .int (yw v4))]) (st' := [.ref x12]) rfl ?_
        refine xZ.k_gR (me := xm128) hP_128 rfl (fun x15 => ?_)
        refine xZ.adv (me := xm128) hP_128 1 (pc' := 130) (lv' := [(7, .ref x12), (6, .int (yw x9)), (5, .ref x1), (0, .ref v0), (1, .int (yw v1)), (2, .int (yw v2)), (3, .int (yw v3)), (4, .int (yw v4))]) (st' := [.int (yw v2), .ref x15]) rfl ?_
        refine xZ.callv (κ := oU) (av := [.int (yw v2)]) (rest := []) (st' := fun _ => []) (k0 := x15) (me := xm128) hP_128 rfl (Or.inl rfl) ⟨rfl, by decide⟩ rfl rfl (Nat.le_of_ble_eq_true rfl) (by decide) hP_131 (Nat.le_of_ble_eq_true rfl) (fun _ => rfl) (k_f_Rule_beginAt O f (d + 1) x15 v2 M12) (fun _ M13 => ?_)
        refine xZ.adv (me := xm128) hP_128 5 (pc' := 140) (lv' := [(7, .ref x12), (6, .int (yw x9)), (5, .ref x1), (0, .ref v0), (1, .int (yw v1)), (2, .int (yw v2)), (3, .int (yw v3)), (4, .int (yw v4))]) (st' := [.int ((yw v2) - (1 : Int32)), .int (10 : Int32), .ref x1]) rfl ?_
        refine xZ.eqs (lv2 := [(7, .ref x12), (6, .int (yw x9)), (5, .ref x1), (0, .ref v0), (1, .int (yw v1)), (2, .int (yw v2)), (3, .int (yw v3)), (4, .int (yw v4))]) (st2 := [.int (yw (v2 - 1)), .int (yw 10), .ref x1]) rfl (by simp only [yl_lit, yL_lit, yw_add, yw_sub, yw_mul, yw_neg, yl_add, yl_sub, yl_mul, cj_and, cj_or, cj_xor, cj_shl, cj_shr, cj_ushr, cj_div, cj_i2c, cj_i2b, cj_dc, ck_and, ck_or, ck_xor, ck_shl, ck_shr, ck_ushr, ck_i2l, ck_l2i, ck_cmp]) ?_
        refine xZ.callv (κ := oU) (av := [.int (yw 10), .int (yw (v2 - 1))]) (rest := []) (st' := fun _ => []) (k0 := x1) (me := xm128) hP_128 rfl (Or.inl rfl) ⟨rfl, by decide⟩ rfl rfl (Nat.le_of_ble_eq_true rfl) (by decide) hP_129 (Nat.le_of_ble_eq_true rfl) (fun _ => rfl) (k_f_Series_keepExceptions O f (d + 5) x1 10 (v2 - 1) M13) (fun _ M14 => ?_)
        refine xZ.adv (me := xm128) hP_128 1 (pc' := 145) (lv' := [(7, .ref x12), (6, .int (yw x9)), (5, .ref x1), (0, .ref v0), (1, .int (yw v1)), (2, .int (yw v2)), (3, .int (yw v3)), (4, .int (yw v4))]) (st' := [.ref x1]) rfl ?_
        refine xZ.k_gR (me := xm128) hP_128 rfl (fun x18 => ?_)
        refine xZ.adv (me := xm128) hP_128 4 (pc' := 152) (lv' := [(7, .ref x12), (6, .int (yw x9)), (5, .ref x1), (0, .ref v0), (1, .int (yw v1)), (2, .int (yw v2)), (3, .int (yw v3)), (4, .int (yw v4))]) (st' := [.int ((yw v2) - (1 : Int32)), .int (2 : Int32), .ref x18]) rfl ?_
        refine xZ.eqs (lv2 := [(7, .ref x12), (6, .int (yw x9)), (5, .ref x1), (0, .ref v0), (1, .int (yw v1)), (2, .int (yw v2)), (3, .int (yw v3)), (4, .int (yw v4))]) (st2 := [.int (yw (v2 - 1)), .int (yw 2), .ref x18]) rfl (by simp only [yl_lit, yL_lit, yw_add, yw_sub, yw_mul, yw_neg, yl_add, yl_sub, yl_mul, cj_and, cj_or, cj_xor, cj_shl, cj_shr, cj_ushr, cj_div, cj_i2c, cj_i2b, cj_dc, ck_and, ck_or, ck_xor, ck_shl, ck_shr, ck_ushr, ck_i2l, ck_l2i, ck_cmp]) ?_
        refine xZ.callv (κ := oU) (av := [.int (yw 2), .int (yw (v2 - 1))]) (rest := []) (st' := fun _ => []) (k0 := x18) (me := xm128) hP_128 rfl (Or.inl rfl) ⟨rfl, by decide⟩ rfl rfl (Nat.le_of_ble_eq_true rfl) (by decide) hP_33 (Nat.le_of_ble_eq_true rfl) (fun _ => rfl) (k_f_Rule_putEnd O f (d + 6) x18 2 (v2 - 1) M14) (fun _ M15 => ?_)
        refine xZ.adv (me := xm128) hP_128 1 (pc' := 157) (lv' := [(7, .ref x12), (6, .int (yw x9)), (5, .ref x1), (0, .ref v0), (1, .int (yw v1)), (2, .int (yw v2)), (3, .int (yw v3)), (4, .int (yw v4))]) (st' := [.ref x1]) rfl ?_
        refine xZ.k_gR (me := xm128) hP_128 rfl (fun x20 => ?_)
        refine xZ.callv (κ := oU) (av := []) (rest := []) (st' := fun _ => []) (k0 := x20) (me := xm128) hP_128 rfl (Or.inl rfl) ⟨rfl, by decide⟩ rfl rfl (Nat.le_of_ble_eq_true rfl) (by decide) hP_43 (Nat.le_of_ble_eq_true rfl) (fun _ => rfl) (k_f_Rule_settle O f (d + 0) x20 M15) (fun _ M16 => ?_)
        refine xZ.adv (me := xm128) hP_128 1 (pc' := 165) (lv' := [(7, .ref x12), (6, .int (yw x9)), (5, .ref x1), (0, .ref v0), (1, .int (yw v1)), (2, .int (yw v2)), (3, .int (yw v3)), (4, .int (yw v4))]) (st' := [.int (yw x9)]) rfl ?_
        exact xZ.jreti (me := xm128) hP_128 rfl rfl
