/-! ===== texts ===== -/
def f_Law_least_169 (O : Nat → Option va_E) (f : Nat) (K117 : Nat → Nat → Nat → Int → Int → Int → Int → Int → Int → Int → Int → Int → xM → Option (Int × xM)) (v0 : Nat) (v1 : Nat) (v2 : Nat) (v3 : Int) (v4 : Int) (v5 : Int) (v6 : Int) (v7 : Int) (v9 : Int) (v10 : Int) (v11 : Int) (s0 : Int) (M : xM) : Option (Int × xM) :=
  K117 v0 v1 v2 v3 v4 v5 v6 v7 s0 v9 v10 (v11 + 1) M
set_option maxRecDepth 20000 in
theorem k_f_Law_least_169 (O : Nat → Option va_E) (f d : Nat) (K117 : Nat → Nat → Nat → Int → Int → Int → Int → Int → Int → Int → Int → Int → xM → Option (Int × xM)) (hK117 : ∀ (v0 : Nat) (v1 : Nat) (v2 : Nat) (v3 : Int) (v4 : Int) (v5 : Int) (v6 : Int) (v7 : Int) (v8 : Int) (v9 : Int) (v10 : Int) (v11 : Int) M, xZ oJ O (d + 4) 204 117 [(0, .ref v0), (1, .ref v1), (2, .ref v2), (3, .int (yw v3)), (4, .int (yw v4)), (5, .int (yw v5)), (6, .int (yw v6)), (7, .int (yw v7)), (8, .int (yw v8)), (9, .int (yw v9)), (10, .int (yw v10)), (11, .int (yw v11))] [] M (K117 v0 v1 v2 v3 v4 v5 v6 v7 v8 v9 v10 v11 M)) (v0 : Nat) (v1 : Nat) (v2 : Nat) (v3 : Int) (v4 : Int) (v5 : Int) (v6 : Int) (v7 : Int) (v9 : Int) (v10 : Int) (v11 : Int) (s0 : Int) (M : xM) : xZ oJ O (d + 4) 204 169 [(0, .ref v0), (1, .ref v1), (2, .ref v2), (3, .int (yw v3)), (4, .int (yw v4)), (5, .int (yw v5)), (6, .int (yw v6)), (7, .int (yw v7)), (9, .int (yw v9)), (10, .int (yw v10)), (11, .int (yw v11))] [.int (yw s0)] M (f_Law_least_169 O f K117 v0 v1 v2 v3 v4 v5 v6 v7 v9 v10 v11 s0 M) := by
  unfold f_Law_least_169
  refine xZ.adv (me := xm204) hP_204 3 (pc' := 117) (lv' := [(11, .int ((yw v11) + (1 : Int32))), (8, .int (yw s0)), (0, .ref v0), (1, .ref v1), (2, .ref v2), (3, .int (yw v3)), (4, .int (yw v4)), (5, .int (yw v5)), (6, .int (yw v6)), (7, .int (yw v7)), (9, .int (yw v9)), (10, .int (yw v10))]) (st' := []) rfl ?_
  refine xZ.eqs (lv2 := [(11, .int (yw (v11 + 1))), (8, .int (yw s0)), (0, .ref v0), (1, .ref v1), (2, .ref v2), (3, .int (yw v3)), (4, .int (yw v4)), (5, .int (yw v5)), (6, .int (yw v6)), (7, .int (yw v7)), (9, .int (yw v9)), (10, .int (yw v10))]) (st2 := []) (by simp only [yl_lit, yL_lit, yw_add, yw_sub, yw_mul, yw_neg, yl_add, yl_sub, yl_mul, cj_and, cj_or, cj_xor, cj_shl, cj_shr, cj_ushr, cj_div, cj_i2c, cj_i2b, cj_dc, ck_and, ck_or, ck_xor, ck_shl, ck_shr, ck_ushr, ck_i2l, ck_l2i, ck_cmp]) rfl ?_
  exact xZ.sub (xsc (.tail _ (.tail _ (.head _))) (xsc (.tail _ (.tail _ (.tail _ (.head _)))) (xsc (.tail _ (.tail _ (.tail _ (.tail _ (.head _))))) (xsc (.tail _ (.tail _ (.tail _ (.tail _ (.tail _ (.head _)))))) (xsc (.tail _ (.tail _ (.tail _ (.tail _ (.tail _ (.tail _ (.head _))))))) (xsc (.tail _ (.tail _ (.tail _ (.tail _ (.tail _ (.tail _ (.tail _ (.head _)))))))) (xsc (.tail _ (.tail _ (.tail _ (.tail _ (.tail _ (.tail _ (.tail _ (.tail _ (.head _))))))))) (xsc (.tail _ (.tail _ (.tail _ (.tail _ (.tail _ (.tail _ (.tail _ (.tail _ (.tail _ (.head _)))))))))) (xsc (.tail _ (.head _)) (xsc (.tail _ (.tail _ (.tail _ (.tail _ (.tail _ (.tail _ (.tail _ (.tail _ (.tail _ (.tail _ (.head _))))))))))) (xsc (.tail _ (.tail _ (.tail _ (.tail _ (.tail _ (.tail _ (.tail _ (.tail _ (.tail _ (.tail _ (.tail _ (.head _)))))))))))) (xsc (.head _) xsn)))))))))))) (show ([11, 8, 0, 1, 2, 3, 4, 5, 6, 7, 9, 10] : List Nat).Nodup from by decide) (hK117 v0 v1 v2 v3 v4 v5 v6 v7 s0 v9 v10 (v11 + 1) M)
def f_Law_least_168 (O : Nat → Option va_E) (f : Nat) (K117 : Nat → Nat → Nat → Int → Int → Int → Int → Int → Int → Int → Int → Int → xM → Option (Int × xM)) (v0 : Nat) (v1 : Nat) (v2 : Nat) (v3 : Int) (v4 : Int) (v5 : Int) (v6 : Int) (v7 : Int) (v9 : Int) (v10 : Int) (v11 : Int) (M : xM) : Option (Int × xM) :=
  f_Law_least_169 O f K117 v0 v1 v2 v3 v4 v5 v6 v7 v9 v10 v11 0 M
set_option maxRecDepth 20000 in
theorem k_f_Law_least_168 (O : Nat → Option va_E) (f d : Nat) (K117 : Nat → Nat → Nat → Int → Int → Int → Int → Int → Int → Int → Int → Int → xM → Option (Int × xM)) (hK117 : ∀ (v0 : Nat) (v1 : Nat) (v2 : Nat) (v3 : Int) (v4 : Int) (v5 : Int) (v6 : Int) (v7 : Int) (v8 : Int) (v9 : Int) (v10 : Int) (v11 : Int) M, xZ oJ O (d + 4) 204 117 [(0, .ref v0), (1, .ref v1), (2, .ref v2), (3, .int (yw v3)), (4, .int (yw v4)), (5, .int (yw v5)), (6, .int (yw v6)), (7, .int (yw v7)), (8, .int (yw v8)), (9, .int (yw v9)), (10, .int (yw v10)), (11, .int (yw v11))] [] M (K117 v0 v1 v2 v3 v4 v5 v6 v7 v8 v9 v10 v11 M)) (v0 : Nat) (v1 : Nat) (v2 : Nat) (v3 : Int) (v4 : Int) (v5 : Int) (v6 : Int) (v7 : Int) (v9 : Int) (v10 : Int) (v11 : Int) (M : xM) : xZ oJ O (d + 4) 204 168 [(0, .ref v0), (1, .ref v1), (2, .ref v2), (3, .int (yw v3)), (4, .int (yw v4)), (5, .int (yw v5)), (6, .int (yw v6)), (7, .int (yw v7)), (9, .int (yw v9)), (10, .int (yw v10)), (11, .int (yw v11))] [] M (f_Law_least_168 O f K117 v0 v1 v2 v3 v4 v5 v6 v7 v9 v10 v11 M) := by
  unfold f_Law_least_168
  refine xZ.adv (me := xm204) hP_204 1 (pc' := 169) (lv' := [(0, .ref v0), (1, .ref v1), (2, .ref v2), (3, .int (yw v3)), (4, .int (yw v4)), (5, .int (yw v5)), (6, .int (yw v6)), (7, .int (yw v7)), (9, .int (yw v9)), (10, .int (yw v10)), (11, .int (yw v11))]) (st' := [.int (0 : Int32)]) rfl ?_
  refine xZ.eqs (lv2 := [(0, .ref v0), (1, .ref v1), (2, .ref v2), (3, .int (yw v3)), (4, .int (yw v4)), (5, .int (yw v5)), (6, .int (yw v6)), (7, .int (yw v7)), (9, .int (yw v9)), (10, .int (yw v10)), (11, .int (yw v11))]) (st2 := [.int (yw 0)]) rfl (by simp only [yl_lit, yL_lit, yw_add, yw_sub, yw_mul, yw_neg, yl_add, yl_sub, yl_mul, cj_and, cj_or, cj_xor, cj_shl, cj_shr, cj_ushr, cj_div, cj_i2c, cj_i2b, cj_dc, ck_and, ck_or, ck_xor, ck_shl, ck_shr, ck_ushr, ck_i2l, ck_l2i, ck_cmp]) ?_
  exact (k_f_Law_least_169 O f d K117 hK117 v0 v1 v2 v3 v4 v5 v6 v7 v9 v10 v11 0 M)
def f_Law_least_164 (O : Nat → Option va_E) (f : Nat) (K117 : Nat → Nat → Nat → Int → Int → Int → Int → Int → Int → Int → Int → Int → xM → Option (Int × xM)) (v0 : Nat) (v1 : Nat) (v2 : Nat) (v3 : Int) (v4 : Int) (v5 : Int) (v6 : Int) (v7 : Int) (v9 : Int) (v10 : Int) (v11 : Int) (M : xM) : Option (Int × xM) :=
  f_Law_least_169 O f K117 v0 v1 v2 v3 v4 v5 v6 v7 v9 v10 v11 1 M
set_option maxRecDepth 20000 in
theorem k_f_Law_least_164 (O : Nat → Option va_E) (f d : Nat) (K117 : Nat → Nat → Nat → Int → Int → Int → Int → Int → Int → Int → Int → Int → xM → Option (Int × xM)) (hK117 : ∀ (v0 : Nat) (v1 : Nat) (v2 : Nat) (v3 : Int) (v4 : Int) (v5 : Int) (v6 : Int) (v7 : Int) (v8 : Int) (v9 : Int) (v10 : Int) (v11 : Int) M, xZ oJ O (d + 4) 204 117 [(0, .ref v0), (1, .ref v1), (2, .ref v2), (3, .int (yw v3)), (4, .int (yw v4)), (5, .int (yw v5)), (6, .int (yw v6)), (7, .int (yw v7)), (8, .int (yw v8)), (9, .int (yw v9)), (10, .int (yw v10)), (11, .int (yw v11))] [] M (K117 v0 v1 v2 v3 v4 v5 v6 v7 v8 v9 v10 v11 M)) (v0 : Nat) (v1 : Nat) (v2 : Nat) (v3 : Int) (v4 : Int) (v5 : Int) (v6 : Int) (v7 : Int) (v9 : Int) (v10 : Int) (v11 : Int) (M : xM) : xZ oJ O (d + 4) 204 164 [(0, .ref v0), (1, .ref v1), (2, .ref v2), (3, .int (yw v3)), (4, .int (yw v4)), (5, .int (yw v5)), (6, .int (yw v6)), (7, .int (yw v7)), (9, .int (yw v9)), (10, .int (yw v10)), (11, .int (yw v11))] [] M (f_Law_least_164 O f K117 v0 v1 v2 v3 v4 v5 v6 v7 v9 v10 v11 M) := by
  unfold f_Law_least_164
  refine xZ.adv (me := xm204) hP_204 2 (pc' := 169) (lv' := [(0, .ref v0), (1, .ref v1), (2, .ref v2), (3, .int (yw v3)), (4, .int (yw v4)), (5, .int (yw v5)), (6, .int (yw v6)), (7, .int (yw v7)), (9, .int (yw v9)), (10, .int (yw v10)), (11, .int (yw v11))]) (st' := [.int (1 : Int32)]) rfl ?_
  refine xZ.eqs (lv2 := [(0, .ref v0), (1, .ref v1), (2, .ref v2), (3, .int (yw v3)), (4, .int (yw v4)), (5, .int (yw v5)), (6, .int (yw v6)), (7, .int (yw v7)), (9, .int (yw v9)), (10, .int (yw v10)), (11, .int (yw v11))]) (st2 := [.int (yw 1)]) rfl (by simp only [yl_lit, yL_lit, yw_add, yw_sub, yw_mul, yw_neg, yl_add, yl_sub, yl_mul, cj_and, cj_or, cj_xor, cj_shl, cj_shr, cj_ushr, cj_div, cj_i2c, cj_i2b, cj_dc, ck_and, ck_or, ck_xor, ck_shl, ck_shr, ck_ushr, ck_i2l, ck_l2i, ck_cmp]) ?_
  exact (k_f_Law_least_169 O f d K117 hK117 v0 v1 v2 v3 v4 v5 v6 v7 v9 v10 v11 1 M)
def f_Law_least_117 (O : Nat → Option va_E) (f : Nat) (K61 : Nat → Nat → Nat → Int → Int → Int → Int → Int → Int → Int → xM → Option (Int × xM)) : Nat → Nat → Nat → Nat → Int → Int → Int → Int → Int → Int → Int → Int → Int → xM → Option (Int × xM)
  | 0, _, _, _, _, _, _, _, _, _, _, _, _, _ => none
  | n + 1, v0, v1, v2, v3, v4, v5, v6, v7, v8, v9, v10, v11, M =>
    if yw 3 ≤ yw v11 then (
      K61 v0 v1 v2 v3 v4 v5 v6 v7 v8 (v9 + 1) M
    ) else
    if yw v10 = yw 0 then (
      K61 v0 v1 v2 v3 v4 v5 v6 v7 v8 (v9 + 1) M
    ) else
    if yw v8 = yw 0 then (
      f_Law_least_168 O f (f_Law_least_117 O f K61 n) v0 v1 v2 v3 v4 v5 v6 v7 v9 v10 v11 M
    ) else
    (gR O M v1 13 0).bind fun x1 =>
    (aJ O M x1 v9).bind fun x2 =>
    xcl (f_Law_takesPart O f v0 x2 v11 M) fun x3 M1 =>
    if yw x3 = yw 0 then (
      f_Law_least_164 O f (f_Law_least_117 O f K61 n) v0 v1 v2 v3 v4 v5 v6 v7 v9 v10 v11 M1
    ) else
    (gR O M1 v1 13 0).bind fun x4 =>
    (aJ O M1 x4 v3).bind fun x5 =>
    xcl (f_Law_takesPart O f v0 x5 v11 M1) fun x6 M2 =>
    if yw x6 = yw 0 then (
      f_Law_least_164 O f (f_Law_least_117 O f K61 n) v0 v1 v2 v3 v4 v5 v6 v7 v9 v10 v11 M2
    ) else
    f_Law_least_168 O f (f_Law_least_117 O f K61 n) v0 v1 v2 v3 v4 v5 v6 v7 v9 v10 v11 M2
set_option maxRecDepth 20000 in
theorem k_f_Law_least_117 (O : Nat → Option va_E) (f d : Nat) (K61 : Nat → Nat → Nat → Int → Int → Int → Int → Int → Int → Int → xM → Option (Int × xM)) (hK61 : ∀ (v0 : Nat) (v1 : Nat) (v2 : Nat) (v3 : Int) (v4 : Int) (v5 : Int) (v6 : Int) (v7 : Int) (v8 : Int) (v9 : Int) M, xZ oJ O (d + 4) 204 61 [(0, .ref v0), (1, .ref v1), (2, .ref v2), (3, .int (yw v3)), (4, .int (yw v4)), (5, .int (yw v5)), (6, .int (yw v6)), (7, .int (yw v7)), (8, .int (yw v8)), (9, .int (yw v9))] [] M (K61 v0 v1 v2 v3 v4 v5 v6 v7 v8 v9 M)) : ∀ (n : Nat) (v0 : Nat) (v1 : Nat) (v2 : Nat) (v3 : Int) (v4 : Int) (v5 : Int) (v6 : Int) (v7 : Int) (v8 : Int) (v9 : Int) (v10 : Int) (v11 : Int) (M : xM), xZ oJ O (d + 4) 204 117 [(0, .ref v0), (1, .ref v1), (2, .ref v2), (3, .int (yw v3)), (4, .int (yw v4)), (5, .int (yw v5)), (6, .int (yw v6)), (7, .int (yw v7)), (8, .int (yw v8)), (9, .int (yw v9)), (10, .int (yw v10)), (11, .int (yw v11))] [] M (f_Law_least_117 O f K61 n v0 v1 v2 v3 v4 v5 v6 v7 v8 v9 v10 v11 M) := by
  intro n
  induction n with
  | zero =>
    intro v0 v1 v2 v3 v4 v5 v6 v7 v8 v9 v10 v11 M
    exact xZ.no
  | succ n ih =>
    intro v0 v1 v2 v3 v4 v5 v6 v7 v8 v9 v10 v11 M
    unfold f_Law_least_117
    refine xZ.adv (me := xm204) hP_204 2 (pc' := 120) (lv' := [(0, .ref v0), (1, .ref v1), (2, .ref v2), (3, .int (yw v3)), (4, .int (yw v4)), (5, .int (yw v5)), (6, .int (yw v6)), (7, .int (yw v7)), (8, .int (yw v8)), (9, .int (yw v9)), (10, .int (yw v10)), (11, .int (yw v11))]) (st' := [.int (3 : Int32), .int (yw v11)]) rfl ?_
    refine xZ.eqs (lv2 := [(0, .ref v0), (1, .ref v1), (2, .ref v2), (3, .int (yw v3)), (4, .int (yw v4)), (5, .int (yw v5)), (6, .int (yw v6)), (7, .int (yw v7)), (8, .int (yw v8)), (9, .int (yw v9)), (10, .int (yw v10)), (11, .int (yw v11))]) (st2 := [.int (yw 3), .int (yw v11)]) rfl (by simp only [yl_lit, yL_lit, yw_add, yw_sub, yw_mul, yw_neg, yl_add, yl_sub, yl_mul, cj_and, cj_or, cj_xor, cj_shl, cj_shr, cj_ushr, cj_div, cj_i2c, cj_i2b, cj_dc, ck_and, ck_or, ck_xor, ck_shl, ck_shr, ck_ushr, ck_i2l, ck_l2i, ck_cmp]) ?_
    refine xZ.jc_ge (me := xm204) hP_204 rfl (fun h1 => ?_) (fun h1 => ?_)
    · skip
      refine xZ.adv (me := xm204) hP_204 2 (pc' := 61) (lv' := [(9, .int ((yw v9) + (1 : Int32))), (0, .ref v0), (1, .ref v1), (2, .ref v2), (3, .int (yw v3)), (4, .int (yw v4)), (5, .int (yw v5)), (6, .int (yw v6)), (7, .int (yw v7)), (8, .int (yw v8)), (10, .int (yw v10)), (11, .int (yw v11))]) (st' := []) rfl ?_
      refine xZ.eqs (lv2 := [(9, .int (yw (v9 + 1))), (0, .ref v0), (1, .ref v1), (2, .ref v2), (3, .int (yw v3)), (4, .int (yw v4)), (5, .int (yw v5)), (6, .int (yw v6)), (7, .int (yw v7)), (8, .int (yw v8)), (10, .int (yw v10)), (11, .int (yw v11))]) (st2 := []) (by simp only [yl_lit, yL_lit, yw_add, yw_sub, yw_mul, yw_neg, yl_add, yl_sub, yl_mul, cj_and, cj_or, cj_xor, cj_shl, cj_shr, cj_ushr, cj_div, cj_i2c, cj_i2b, cj_dc, ck_and, ck_or, ck_xor, ck_shl, ck_shr, ck_ushr, ck_i2l, ck_l2i, ck_cmp]) rfl ?_
      exact xZ.sub (xsc (.tail _ (.head _)) (xsc (.tail _ (.tail _ (.head _))) (xsc (.tail _ (.tail _ (.tail _ (.head _)))) (xsc (.tail _ (.tail _ (.tail _ (.tail _ (.head _))))) (xsc (.tail _ (.tail _ (.tail _ (.tail _ (.tail _ (.head _)))))) (xsc (.tail _ (.tail _ (.tail _ (.tail _ (.tail _ (.tail _ (.head _))))))) (xsc (.tail _ (.tail _ (.tail _ (.tail _ (.tail _ (.tail _ (.tail _ (.head _)))))))) (xsc (.tail _ (.tail _ (.tail _ (.tail _ (.tail _ (.tail _ (.tail _ (.tail _ (.head _))))))))) (xsc (.tail _ (.tail _ (.tail _ (.tail _ (.tail _ (.tail _ (.tail _ (.tail _ (.tail _ (.head _)))))))))) (xsc (.head _) xsn)))))))))) (show ([9, 0, 1, 2, 3, 4, 5, 6, 7, 8, 10, 11] : List Nat).Nodup from by decide) (hK61 v0 v1 v2 v3 v4 v5 v6 v7 v8 (v9 + 1) M)
    · skip
      refine xZ.adv (me := xm204) hP_204 1 (pc' := 125) (lv' := [(0, .ref v0), (1, .ref v1), (2, .ref v2), (3, .int (yw v3)), (4, .int (yw v4)), (5, .int (yw v5)), (6, .int (yw v6)), (7, .int (yw v7)), (8, .int (yw v8)), (9, .int (yw v9)), (10, .int (yw v10)), (11, .int (yw v11))]) (st' := [.int (yw v10)]) rfl ?_
      refine xZ.jf_eq (me := xm204) hP_204 rfl (fun h2 => ?_) (fun h2 => ?_)
      · skip
        refine xZ.adv (me := xm204) hP_204 2 (pc' := 61) (lv' := [(9, .int ((yw v9) + (1 : Int32))), (0, .ref v0), (1, .ref v1), (2, .ref v2), (3, .int (yw v3)), (4, .int (yw v4)), (5, .int (yw v5)), (6, .int (yw v6)), (7, .int (yw v7)), (8, .int (yw v8)), (10, .int (yw v10)), (11, .int (yw v11))]) (st' := []) rfl ?_
        refine xZ.eqs (lv2 := [(9, .int (yw (v9 + 1))), (0, .ref v0), (1, .ref v1), (2, .ref v2), (3, .int (yw v3)), (4, .int (yw v4)), (5, .int (yw v5)), (6, .int (yw v6)), (7, .int (yw v7)), (8, .int (yw v8)), (10, .int (yw v10)), (11, .int (yw v11))]) (st2 := []) (by simp only [yl_lit, yL_lit, yw_add, yw_sub, yw_mul, yw_neg, yl_add, yl_sub, yl_mul, cj_and, cj_or, cj_xor, cj_shl, cj_shr, cj_ushr, cj_div, cj_i2c, cj_i2b, cj_dc, ck_and, ck_or, ck_xor, ck_shl, ck_shr, ck_ushr, ck_i2l, ck_l2i, ck_cmp]) rfl ?_
        exact xZ.sub (xsc (.tail _ (.head _)) (xsc (.tail _ (.tail _ (.head _))) (xsc (.tail _ (.tail _ (.tail _ (.head _)))) (xsc (.tail _ (.tail _ (.tail _ (.tail _ (.head _))))) (xsc (.tail _ (.tail _ (.tail _ (.tail _ (.tail _ (.head _)))))) (xsc (.tail _ (.tail _ (.tail _ (.tail _ (.tail _ (.tail _ (.head _))))))) (xsc (.tail _ (.tail _ (.tail _ (.tail _ (.tail _ (.tail _ (.tail _ (.head _)))))))) (xsc (.tail _ (.tail _ (.tail _ (.tail _ (.tail _ (.tail _ (.tail _ (.tail _ (.head _))))))))) (xsc (.tail _ (.tail _ (.tail _ (.tail _ (.tail _ (.tail _ (.tail _ (.tail _ (.tail _ (.head _)))))))))) (xsc (.head _) xsn)))))))))) (show ([9, 0, 1, 2, 3, 4, 5, 6, 7, 8, 10, 11] : List Nat).Nodup from by decide) (hK61 v0 v1 v2 v3 v4 v5 v6 v7 v8 (v9 + 1) M)
      · skip
        refine xZ.adv (me := xm204) hP_204 1 (pc' := 130) (lv' := [(0, .ref v0), (1, .ref v1), (2, .ref v2), (3, .int (yw v3)), (4, .int (yw v4)), (5, .int (yw v5)), (6, .int (yw v6)), (7, .int (yw v7)), (8, .int (yw v8)), (9, .int (yw v9)), (10, .int (yw v10)), (11, .int (yw v11))]) (st' := [.int (yw v8)]) rfl ?_
        refine xZ.jf_eq (me := xm204) hP_204 rfl (fun h3 => ?_) (fun h3 => ?_)
        · skip
          exact xZ.sub (xsc (.head _) (xsc (.tail _ (.head _)) (xsc (.tail _ (.tail _ (.head _))) (xsc (.tail _ (.tail _ (.tail _ (.head _)))) (xsc (.tail _ (.tail _ (.tail _ (.tail _ (.head _))))) (xsc (.tail _ (.tail _ (.tail _ (.tail _ (.tail _ (.head _)))))) (xsc (.tail _ (.tail _ (.tail _ (.tail _ (.tail _ (.tail _ (.head _))))))) (xsc (.tail _ (.tail _ (.tail _ (.tail _ (.tail _ (.tail _ (.tail _ (.head _)))))))) (xsc (.tail _ (.tail _ (.tail _ (.tail _ (.tail _ (.tail _ (.tail _ (.tail _ (.tail _ (.head _)))))))))) (xsc (.tail _ (.tail _ (.tail _ (.tail _ (.tail _ (.tail _ (.tail _ (.tail _ (.tail _ (.tail _ (.head _))))))))))) (xsc (.tail _ (.tail _ (.tail _ (.tail _ (.tail _ (.tail _ (.tail _ (.tail _ (.tail _ (.tail _ (.tail _ (.head _)))))))))))) xsn))))))))))) (show ([0, 1, 2, 3, 4, 5, 6, 7, 8, 9, 10, 11] : List Nat).Nodup from by decide) (k_f_Law_least_168 O f d (f_Law_least_117 O f K61 n) ih v0 v1 v2 v3 v4 v5 v6 v7 v9 v10 v11 M)
        · skip
          refine xZ.adv (me := xm204) hP_204 2 (pc' := 135) (lv' := [(0, .ref v0), (1, .ref v1), (2, .ref v2), (3, .int (yw v3)), (4, .int (yw v4)), (5, .int (yw v5)), (6, .int (yw v6)), (7, .int (yw v7)), (8, .int (yw v8)), (9, .int (yw v9)), (10, .int (yw v10)), (11, .int (yw v11))]) (st' := [.ref v1, .ref v0]) rfl ?_
          refine xZ.k_gR (me := xm204) hP_204 rfl (fun x1 => ?_)
          refine xZ.adv (me := xm204) hP_204 1 (pc' := 140) (lv' := [(0, .ref v0), (1, .ref v1), (2, .ref v2), (3, .int (yw v3)), (4, .int (yw v4)), (5, .int (yw v5)), (6, .int (yw v6)), (7, .int (yw v7)), (8, .int (yw v8)), (9, .int (yw v9)), (10, .int (yw v10)), (11, .int (yw v11))]) (st' := [.int (yw v9), .ref x1, .ref v0]) rfl ?_
          refine xZ.k_aJ (me := xm204) hP_204 rfl (fun x2 => ?_)
          refine xZ.adv (me := xm204) hP_204 1 (pc' := 143) (lv' := [(0, .ref v0), (1, .ref v1), (2, .ref v2), (3, .int (yw v3)), (4, .int (yw v4)), (5, .int (yw v5)), (6, .int (yw v6)), (7, .int (yw v7)), (8, .int (yw v8)), (9, .int (yw v9)), (10, .int (yw v10)), (11, .int (yw v11))]) (st' := [.int (yw v11), .int (yw x2), .ref v0]) rfl ?_
          refine xZ.calls (κ := oJ) (av := [.ref v0, .int (yw x2), .int (yw v11)]) (rest := []) (st' := fun x3 => [.int (yw x3)]) (me := xm204) hP_204 rfl rfl rfl (Nat.le_of_ble_eq_true rfl) (by decide) hP_155 (Nat.le_of_ble_eq_true rfl) (fun _ => rfl) (k_f_Law_takesPart O f (d + 0) v0 x2 v11 M) (fun x3 M1 => ?_)
          refine xZ.jf_eq (me := xm204) hP_204 rfl (fun h4 => ?_) (fun h4 => ?_)
          · skip
            exact xZ.sub (xsc (.head _) (xsc (.tail _ (.head _)) (xsc (.tail _ (.tail _ (.head _))) (xsc (.tail _ (.tail _ (.tail _ (.head _)))) (xsc (.tail _ (.tail _ (.tail _ (.tail _ (.head _))))) (xsc (.tail _ (.tail _ (.tail _ (.tail _ (.tail _ (.head _)))))) (xsc (.tail _ (.tail _ (.tail _ (.tail _ (.tail _ (.tail _ (.head _))))))) (xsc (.tail _ (.tail _ (.tail _ (.tail _ (.tail _ (.tail _ (.tail _ (.head _)))))))) (xsc (.tail _ (.tail _ (.tail _ (.tail _ (.tail _ (.tail _ (.tail _ (.tail _ (.tail _ (.head _)))))))))) (xsc (.tail _ (.tail _ (.tail _ (.tail _ (.tail _ (.tail _ (.tail _ (.tail _ (.tail _ (.tail _ (.head _))))))))))) (xsc (.tail _ (.tail _ (.tail _ (.tail _ (.tail _ (.tail _ (.tail _ (.tail _ (.tail _ (.tail _ (.tail _ (.head _)))))))))))) xsn))))))))))) (show ([0, 1, 2, 3, 4, 5, 6, 7, 8, 9, 10, 11] : List Nat).Nodup from by decide) (k_f_Law_least_164 O f d (f_Law_least_117 O f K61 n) ih v0 v1 v2 v3 v4 v5 v6 v7 v9 v10 v11 M1)
          · skip
            refine xZ.adv (me := xm204) hP_204 2 (pc' := 151) (lv' := [(0, .ref v0), (1, .ref v1), (2, .ref v2), (3, .int (yw v3)), (4, .int (yw v4)), (5, .int (yw v5)), (6, .int (yw v6)), (7, .int (yw v7)), (8, .int (yw v8)), (9, .int (yw v9)), (10, .int (yw v10)), (11, .int (yw v11))]) (st' := [.ref v1, .ref v0]) rfl ?_
            refine xZ.k_gR (me := xm204) hP_204 rfl (fun x4 => ?_)
            refine xZ.adv (me := xm204) hP_204 1 (pc' := 155) (lv' := [(0, .ref v0), (1, .ref v1), (2, .ref v2), (3, .int (yw v3)), (4, .int (yw v4)), (5, .int (yw v5)), (6, .int (yw v6)), (7, .int (yw v7)), (8, .int (yw v8)), (9, .int (yw v9)), (10, .int (yw v10)), (11, .int (yw v11))]) (st' := [.int (yw v3), .ref x4, .ref v0]) rfl ?_
            refine xZ.k_aJ (me := xm204) hP_204 rfl (fun x5 => ?_)
            refine xZ.adv (me := xm204) hP_204 1 (pc' := 158) (lv' := [(0, .ref v0), (1, .ref v1), (2, .ref v2), (3, .int (yw v3)), (4, .int (yw v4)), (5, .int (yw v5)), (6, .int (yw v6)), (7, .int (yw v7)), (8, .int (yw v8)), (9, .int (yw v9)), (10, .int (yw v10)), (11, .int (yw v11))]) (st' := [.int (yw v11), .int (yw x5), .ref v0]) rfl ?_
            refine xZ.calls (κ := oJ) (av := [.ref v0, .int (yw x5), .int (yw v11)]) (rest := []) (st' := fun x6 => [.int (yw x6)]) (me := xm204) hP_204 rfl rfl rfl (Nat.le_of_ble_eq_true rfl) (by decide) hP_155 (Nat.le_of_ble_eq_true rfl) (fun _ => rfl) (k_f_Law_takesPart O f (d + 0) v0 x5 v11 M1) (fun x6 M2 => ?_)
            refine xZ.jf_ne (me := xm204) hP_204 rfl (fun h5 => ?_) (fun h5 => ?_)
            · skip
              exact xZ.sub (xsc (.head _) (xsc (.tail _ (.head _)) (xsc (.tail _ (.tail _ (.head _))) (xsc (.tail _ (.tail _ (.tail _ (.head _)))) (xsc (.tail _ (.tail _ (.tail _ (.tail _ (.head _))))) (xsc (.tail _ (.tail _ (.tail _ (.tail _ (.tail _ (.head _)))))) (xsc (.tail _ (.tail _ (.tail _ (.tail _ (.tail _ (.tail _ (.head _))))))) (xsc (.tail _ (.tail _ (.tail _ (.tail _ (.tail _ (.tail _ (.tail _ (.head _)))))))) (xsc (.tail _ (.tail _ (.tail _ (.tail _ (.tail _ (.tail _ (.tail _ (.tail _ (.tail _ (.head _)))))))))) (xsc (.tail _ (.tail _ (.tail _ (.tail _ (.tail _ (.tail _ (.tail _ (.tail _ (.tail _ (.tail _ (.head _))))))))))) (xsc (.tail _ (.tail _ (.tail _ (.tail _ (.tail _ (.tail _ (.tail _ (.tail _ (.tail _ (.tail _ (.tail _ (.head _)))))))))))) xsn))))))))))) (show ([0, 1, 2, 3, 4, 5, 6, 7, 8, 9, 10, 11] : List Nat).Nodup from by decide) (k_f_Law_least_164 O f d (f_Law_least_117 O f K61 n) ih v0 v1 v2 v3 v4 v5 v6 v7 v9 v10 v11 M2)
            · skip
              exact xZ.sub (xsc (.head _) (xsc (.tail _ (.head _)) (xsc (.tail _ (.tail _ (.head _))) (xsc (.tail _ (.tail _ (.tail _ (.head _)))) (xsc (.tail _ (.tail _ (.tail _ (.tail _ (.head _))))) (xsc (.tail _ (.tail _ (.tail _ (.tail _ (.tail _ (.head _)))))) (xsc (.tail _ (.tail _ (.tail _ (.tail _ (.tail _ (.tail _ (.head _))))))) (xsc (.tail _ (.tail _ (.tail _ (.tail _ (.tail _ (.tail _ (.tail _ (.head _)))))))) (xsc (.tail _ (.tail _ (.tail _ (.tail _ (.tail _ (.tail _ (.tail _ (.tail _ (.tail _ (.head _)))))))))) (xsc (.tail _ (.tail _ (.tail _ (.tail _ (.tail _ (.tail _ (.tail _ (.tail _ (.tail _ (.tail _ (.head _))))))))))) (xsc (.tail _ (.tail _ (.tail _ (.tail _ (.tail _ (.tail _ (.tail _ (.tail _ (.tail _ (.tail _ (.tail _ (.head _)))))))))))) xsn))))))))))) (show ([0, 1, 2, 3, 4, 5, 6, 7, 8, 9, 10, 11] : List Nat).Nodup from by decide) (k_f_Law_least_168 O f d (f_Law_least_117 O f K61 n) ih v0 v1 v2 v3 v4 v5 v6 v7 v9 v10 v11 M2)
def f_Law_least_112 (O : Nat → Option va_E) (f : Nat) (K61 : Nat → Nat → Nat → Int → Int → Int → Int → Int → Int → Int → xM → Option (Int × xM)) (v0 : Nat) (v1 : Nat) (v2 : Nat) (v3 : Int) (v4 : Int) (v5 : Int) (v6 : Int) (v7 : Int) (v8 : Int) (v9 : Int) (s0 : Int) (M : xM) : Option (Int × xM) :=
  f_Law_least_117 O f K61 f v0 v1 v2 v3 v4 v5 v6 v7 v8 v9 s0 0 M
set_option maxRecDepth 20000 in
theorem k_f_Law_least_112 (O : Nat → Option va_E) (f d : Nat) (K61 : Nat → Nat → Nat → Int → Int → Int → Int → Int → Int → Int → xM → Option (Int × xM)) (hK61 : ∀ (v0 : Nat) (v1 : Nat) (v2 : Nat) (v3 : Int) (v4 : Int) (v5 : Int) (v6 : Int) (v7 : Int) (v8 : Int) (v9 : Int) M, xZ oJ O (d + 4) 204 61 [(0, .ref v0), (1, .ref v1), (2, .ref v2), (3, .int (yw v3)), (4, .int (yw v4)), (5, .int (yw v5)), (6, .int (yw v6)), (7, .int (yw v7)), (8, .int (yw v8)), (9, .int (yw v9))] [] M (K61 v0 v1 v2 v3 v4 v5 v6 v7 v8 v9 M)) (v0 : Nat) (v1 : Nat) (v2 : Nat) (v3 : Int) (v4 : Int) (v5 : Int) (v6 : Int) (v7 : Int) (v8 : Int) (v9 : Int) (s0 : Int) (M : xM) : xZ oJ O (d + 4) 204 112 [(0, .ref v0), (1, .ref v1), (2, .ref v2), (3, .int (yw v3)), (4, .int (yw v4)), (5, .int (yw v5)), (6, .int (yw v6)), (7, .int (yw v7)), (8, .int (yw v8)), (9, .int (yw v9))] [.int (yw s0)] M (f_Law_least_112 O f K61 v0 v1 v2 v3 v4 v5 v6 v7 v8 v9 s0 M) := by
  unfold f_Law_least_112
  refine xZ.adv (me := xm204) hP_204 3 (pc' := 117) (lv' := [(11, .int (0 : Int32)), (10, .int (yw s0)), (0, .ref v0), (1, .ref v1), (2, .ref v2), (3, .int (yw v3)), (4, .int (yw v4)), (5, .int (yw v5)), (6, .int (yw v6)), (7, .int (yw v7)), (8, .int (yw v8)), (9, .int (yw v9))]) (st' := []) rfl ?_
  refine xZ.eqs (lv2 := [(11, .int (yw 0)), (10, .int (yw s0)), (0, .ref v0), (1, .ref v1), (2, .ref v2), (3, .int (yw v3)), (4, .int (yw v4)), (5, .int (yw v5)), (6, .int (yw v6)), (7, .int (yw v7)), (8, .int (yw v8)), (9, .int (yw v9))]) (st2 := []) (by simp only [yl_lit, yL_lit, yw_add, yw_sub, yw_mul, yw_neg, yl_add, yl_sub, yl_mul, cj_and, cj_or, cj_xor, cj_shl, cj_shr, cj_ushr, cj_div, cj_i2c, cj_i2b, cj_dc, ck_and, ck_or, ck_xor, ck_shl, ck_shr, ck_ushr, ck_i2l, ck_l2i, ck_cmp]) rfl ?_
  exact xZ.sub (xsc (.tail _ (.tail _ (.head _))) (xsc (.tail _ (.tail _ (.tail _ (.head _)))) (xsc (.tail _ (.tail _ (.tail _ (.tail _ (.head _))))) (xsc (.tail _ (.tail _ (.tail _ (.tail _ (.tail _ (.head _)))))) (xsc (.tail _ (.tail _ (.tail _ (.tail _ (.tail _ (.tail _ (.head _))))))) (xsc (.tail _ (.tail _ (.tail _ (.tail _ (.tail _ (.tail _ (.tail _ (.head _)))))))) (xsc (.tail _ (.tail _ (.tail _ (.tail _ (.tail _ (.tail _ (.tail _ (.tail _ (.head _))))))))) (xsc (.tail _ (.tail _ (.tail _ (.tail _ (.tail _ (.tail _ (.tail _ (.tail _ (.tail _ (.head _)))))))))) (xsc (.tail _ (.tail _ (.tail _ (.tail _ (.tail _ (.tail _ (.tail _ (.tail _ (.tail _ (.tail _ (.head _))))))))))) (xsc (.tail _ (.tail _ (.tail _ (.tail _ (.tail _ (.tail _ (.tail _ (.tail _ (.tail _ (.tail _ (.tail _ (.head _)))))))))))) (xsc (.tail _ (.head _)) (xsc (.head _) xsn)))))))))))) (show ([11, 10, 0, 1, 2, 3, 4, 5, 6, 7, 8, 9] : List Nat).Nodup from by decide) (k_f_Law_least_117 O f d K61 hK61 f v0 v1 v2 v3 v4 v5 v6 v7 v8 v9 s0 0 M)
def f_Law_least_231 (O : Nat → Option va_E) (f : Nat) (K17 : Nat → Nat → Nat → Int → Int → Int → Int → Int → xM → Option (Int × xM)) (v0 : Nat) (v1 : Nat) (v2 : Nat) (v3 : Int) (v4 : Int) (v5 : Int) (v7 : Int) (v9 : Int) (M : xM) : Option (Int × xM) :=
  xcl (f_Math_abs O f v7 M) fun x1 M1 =>
  K17 v0 v1 v2 v3 v4 v5 (v9 + x1) (v7 + (-30)) M1
set_option maxRecDepth 20000 in
theorem k_f_Law_least_231 (O : Nat → Option va_E) (f d : Nat) (K17 : Nat → Nat → Nat → Int → Int → Int → Int → Int → xM → Option (Int × xM)) (hK17 : ∀ (v0 : Nat) (v1 : Nat) (v2 : Nat) (v3 : Int) (v4 : Int) (v5 : Int) (v6 : Int) (v7 : Int) M, xZ oJ O (d + 4) 204 17 [(0, .ref v0), (1, .ref v1), (2, .ref v2), (3, .int (yw v3)), (4, .int (yw v4)), (5, .int (yw v5)), (6, .int (yw v6)), (7, .int (yw v7))] [] M (K17 v0 v1 v2 v3 v4 v5 v6 v7 M)) (v0 : Nat) (v1 : Nat) (v2 : Nat) (v3 : Int) (v4 : Int) (v5 : Int) (v7 : Int) (v9 : Int) (M : xM) : xZ oJ O (d + 4) 204 231 [(0, .ref v0), (1, .ref v1), (2, .ref v2), (3, .int (yw v3)), (4, .int (yw v4)), (5, .int (yw v5)), (7, .int (yw v7)), (9, .int (yw v9))] [] M (f_Law_least_231 O f K17 v0 v1 v2 v3 v4 v5 v7 v9 M) := by
  unfold f_Law_least_231
  refine xZ.adv (me := xm204) hP_204 2 (pc' := 235) (lv' := [(0, .ref v0), (1, .ref v1), (2, .ref v2), (3, .int (yw v3)), (4, .int (yw v4)), (5, .int (yw v5)), (7, .int (yw v7)), (9, .int (yw v9))]) (st' := [.int (yw v7), .int (yw v9)]) rfl ?_
  refine xZ.calls (κ := oJ) (av := [.int (yw v7)]) (rest := [.int (yw v9)]) (st' := fun x1 => [.int (yw x1), .int (yw v9)]) (me := xm204) hP_204 rfl rfl rfl (Nat.le_of_ble_eq_true rfl) (by decide) hP_249 (Nat.le_of_ble_eq_true rfl) (fun _ => rfl) (k_f_Math_abs O f (d + 3) v7 M) (fun x1 M1 => ?_)
  refine xZ.adv (me := xm204) hP_204 4 (pc' := 17) (lv' := [(7, .int ((yw v7) + (-30 : Int32))), (6, .int ((yw v9) + (yw x1))), (0, .ref v0), (1, .ref v1), (2, .ref v2), (3, .int (yw v3)), (4, .int (yw v4)), (5, .int (yw v5)), (9, .int (yw v9))]) (st' := []) rfl ?_
  refine xZ.eqs (lv2 := [(7, .int (yw (v7 + (-30)))), (6, .int (yw (v9 + x1))), (0, .ref v0), (1, .ref v1), (2, .ref v2), (3, .int (yw v3)), (4, .int (yw v4)), (5, .int (yw v5)), (9, .int (yw v9))]) (st2 := []) (by simp only [yl_lit, yL_lit, yw_add, yw_sub, yw_mul, yw_neg, yl_add, yl_sub, yl_mul, cj_and, cj_or, cj_xor, cj_shl, cj_shr, cj_ushr, cj_div, cj_i2c, cj_i2b, cj_dc, ck_and, ck_or, ck_xor, ck_shl, ck_shr, ck_ushr, ck_i2l, ck_l2i, ck_cmp]) rfl ?_
  exact xZ.sub (xsc (.tail _ (.tail _ (.head _))) (xsc (.tail _ (.tail _ (.tail _ (.head _)))) (xsc (.tail _ (.tail _ (.tail _ (.tail _ (.head _))))) (xsc (.tail _ (.tail _ (.tail _ (.tail _ (.tail _ (.head _)))))) (xsc (.tail _ (.tail _ (.tail _ (.tail _ (.tail _ (.tail _ (.head _))))))) (xsc (.tail _ (.tail _ (.tail _ (.tail _ (.tail _ (.tail _ (.tail _ (.head _)))))))) (xsc (.tail _ (.head _)) (xsc (.head _) xsn)))))))) (show ([7, 6, 0, 1, 2, 3, 4, 5, 9] : List Nat).Nodup from by decide) (hK17 v0 v1 v2 v3 v4 v5 (v9 + x1) (v7 + (-30)) M1)
def f_Law_least_183 (O : Nat → Option va_E) (f : Nat) (K17 : Nat → Nat → Nat → Int → Int → Int → Int → Int → xM → Option (Int × xM)) (KS : Nat → Nat → Nat → Int → Int → Int → xM → Option (Int × xM)) (v0 : Nat) (v1 : Nat) (v2 : Nat) (v3 : Int) (v4 : Int) (v5 : Int) (v6 : Int) (v7 : Int) (v8 : Int) (M : xM) : Option (Int × xM) :=
  if yw v8 = yw 0 then (
    K17 v0 v1 v2 v3 v4 v5 v6 (v7 + (-30)) M
  ) else
  xcl (KS v0 v1 v2 (v3 + 1) v4 v5 M) fun x1 M1 =>
  if yw x1 = yw (-1) then (
    K17 v0 v1 v2 v3 v4 v5 v6 (v7 + (-30)) M1
  ) else
  if yw v6 = yw (-1) then (
    f_Law_least_231 O f K17 v0 v1 v2 v3 v4 v5 v7 x1 M1
  ) else
  xcl (f_Math_abs O f v7 M1) fun x2 M2 =>
  if yw v6 ≤ yw (x1 + x2) then (
    K17 v0 v1 v2 v3 v4 v5 v6 (v7 + (-30)) M2
  ) else
  f_Law_least_231 O f K17 v0 v1 v2 v3 v4 v5 v7 x1 M2
set_option maxRecDepth 20000 in
theorem k_f_Law_least_183 (O : Nat → Option va_E) (f d : Nat) (K17 : Nat → Nat → Nat → Int → Int → Int → Int → Int → xM → Option (Int × xM)) (KS : Nat → Nat → Nat → Int → Int → Int → xM → Option (Int × xM)) (hK17 : ∀ (v0 : Nat) (v1 : Nat) (v2 : Nat) (v3 : Int) (v4 : Int) (v5 : Int) (v6 : Int) (v7 : Int) M, xZ oJ O (d + 4) 204 17 [(0, .ref v0), (1, .ref v1), (2, .ref v2), (3, .int (yw v3)), (4, .int (yw v4)), (5, .int (yw v5)), (6, .int (yw v6)), (7, .int (yw v7))] [] M (K17 v0 v1 v2 v3 v4 v5 v6 v7 M)) (hKS : ∀ (v0 : Nat) (v1 : Nat) (v2 : Nat) (v3 : Int) (v4 : Int) (v5 : Int) M, xZ oJ O (d + 3) 204 0 [(0, .ref v0), (1, .ref v1), (2, .ref v2), (3, .int (yw v3)), (4, .int (yw v4)), (5, .int (yw v5))] [] M (KS v0 v1 v2 v3 v4 v5 M)) (v0 : Nat) (v1 : Nat) (v2 : Nat) (v3 : Int) (v4 : Int) (v5 : Int) (v6 : Int) (v7 : Int) (v8 : Int) (M : xM) : xZ oJ O (d + 4) 204 183 [(0, .ref v0), (1, .ref v1), (2, .ref v2), (3, .int (yw v3)), (4, .int (yw v4)), (5, .int (yw v5)), (6, .int (yw v6)), (7, .int (yw v7)), (8, .int (yw v8))] [] M (f_Law_least_183 O f K17 KS v0 v1 v2 v3 v4 v5 v6 v7 v8 M) := by
  unfold f_Law_least_183
  refine xZ.adv (me := xm204) hP_204 1 (pc' := 185) (lv' := [(0, .ref v0), (1, .ref v1), (2, .ref v2), (3, .int (yw v3)), (4, .int (yw v4)), (5, .int (yw v5)), (6, .int (yw v6)), (7, .int (yw v7)), (8, .int (yw v8))]) (st' := [.int (yw v8)]) rfl ?_
  refine xZ.jf_ne (me := xm204) hP_204 rfl (fun h1 => ?_) (fun h1 => ?_)
  · skip
    refine xZ.adv (me := xm204) hP_204 3 (pc' := 17) (lv' := [(7, .int ((yw v7) + (-30 : Int32))), (0, .ref v0), (1, .ref v1), (2, .ref v2), (3, .int (yw v3)), (4, .int (yw v4)), (5, .int (yw v5)), (6, .int (yw v6)), (8, .int (yw v8))]) (st' := []) rfl ?_
    refine xZ.eqs (lv2 := [(7, .int (yw (v7 + (-30)))), (0, .ref v0), (1, .ref v1), (2, .ref v2), (3, .int (yw v3)), (4, .int (yw v4)), (5, .int (yw v5)), (6, .int (yw v6)), (8, .int (yw v8))]) (st2 := []) (by simp only [yl_lit, yL_lit, yw_add, yw_sub, yw_mul, yw_neg, yl_add, yl_sub, yl_mul, cj_and, cj_or, cj_xor, cj_shl, cj_shr, cj_ushr, cj_div, cj_i2c, cj_i2b, cj_dc, ck_and, ck_or, ck_xor, ck_shl, ck_shr, ck_ushr, ck_i2l, ck_l2i, ck_cmp]) rfl ?_
    exact xZ.sub (xsc (.tail _ (.head _)) (xsc (.tail _ (.tail _ (.head _))) (xsc (.tail _ (.tail _ (.tail _ (.head _)))) (xsc (.tail _ (.tail _ (.tail _ (.tail _ (.head _))))) (xsc (.tail _ (.tail _ (.tail _ (.tail _ (.tail _ (.head _)))))) (xsc (.tail _ (.tail _ (.tail _ (.tail _ (.tail _ (.tail _ (.head _))))))) (xsc (.tail _ (.tail _ (.tail _ (.tail _ (.tail _ (.tail _ (.tail _ (.head _)))))))) (xsc (.head _) xsn)))))))) (show ([7, 0, 1, 2, 3, 4, 5, 6, 8] : List Nat).Nodup from by decide) (hK17 v0 v1 v2 v3 v4 v5 v6 (v7 + (-30)) M)
  · skip
    refine xZ.adv (me := xm204) hP_204 8 (pc' := 201) (lv' := [(0, .ref v0), (1, .ref v1), (2, .ref v2), (3, .int (yw v3)), (4, .int (yw v4)), (5, .int (yw v5)), (6, .int (yw v6)), (7, .int (yw v7)), (8, .int (yw v8))]) (st' := [.int (yw v5), .int (yw v4), .int ((yw v3) + (1 : Int32)), .ref v2, .ref v1, .ref v0]) rfl ?_
    refine xZ.eqs (lv2 := [(0, .ref v0), (1, .ref v1), (2, .ref v2), (3, .int (yw v3)), (4, .int (yw v4)), (5, .int (yw v5)), (6, .int (yw v6)), (7, .int (yw v7)), (8, .int (yw v8))]) (st2 := [.int (yw v5), .int (yw v4), .int (yw (v3 + 1)), .ref v2, .ref v1, .ref v0]) rfl (by simp only [yl_lit, yL_lit, yw_add, yw_sub, yw_mul, yw_neg, yl_add, yl_sub, yl_mul, cj_and, cj_or, cj_xor, cj_shl, cj_shr, cj_ushr, cj_div, cj_i2c, cj_i2b, cj_dc, ck_and, ck_or, ck_xor, ck_shl, ck_shr, ck_ushr, ck_i2l, ck_l2i, ck_cmp]) ?_
    refine xZ.calls (κ := oJ) (av := [.ref v0, .ref v1, .ref v2, .int (yw (v3 + 1)), .int (yw v4), .int (yw v5)]) (rest := []) (st' := fun x1 => [.int (yw x1)]) (me := xm204) hP_204 rfl rfl rfl (Nat.le_of_ble_eq_true rfl) (by decide) hP_204 (Nat.le_of_ble_eq_true rfl) (fun _ => rfl) (hKS v0 v1 v2 (v3 + 1) v4 v5 M) (fun x1 M1 => ?_)
    refine xZ.adv (me := xm204) hP_204 3 (pc' := 209) (lv' := [(9, .int (yw x1)), (0, .ref v0), (1, .ref v1), (2, .ref v2), (3, .int (yw v3)), (4, .int (yw v4)), (5, .int (yw v5)), (6, .int (yw v6)), (7, .int (yw v7)), (8, .int (yw v8))]) (st' := [.int (-1 : Int32), .int (yw x1)]) rfl ?_
    refine xZ.eqs (lv2 := [(9, .int (yw x1)), (0, .ref v0), (1, .ref v1), (2, .ref v2), (3, .int (yw v3)), (4, .int (yw v4)), (5, .int (yw v5)), (6, .int (yw v6)), (7, .int (yw v7)), (8, .int (yw v8))]) (st2 := [.int (yw (-1)), .int (yw x1)]) rfl (by simp only [yl_lit, yL_lit, yw_add, yw_sub, yw_mul, yw_neg, yl_add, yl_sub, yl_mul, cj_and, cj_or, cj_xor, cj_shl, cj_shr, cj_ushr, cj_div, cj_i2c, cj_i2b, cj_dc, ck_and, ck_or, ck_xor, ck_shl, ck_shr, ck_ushr, ck_i2l, ck_l2i, ck_cmp]) ?_
    refine xZ.jc_eq (me := xm204) hP_204 rfl (fun h2 => ?_) (fun h2 => ?_)
    · skip
      refine xZ.adv (me := xm204) hP_204 2 (pc' := 17) (lv' := [(7, .int ((yw v7) + (-30 : Int32))), (9, .int (yw x1)), (0, .ref v0), (1, .ref v1), (2, .ref v2), (3, .int (yw v3)), (4, .int (yw v4)), (5, .int (yw v5)), (6, .int (yw v6)), (8, .int (yw v8))]) (st' := []) rfl ?_
      refine xZ.eqs (lv2 := [(7, .int (yw (v7 + (-30)))), (9, .int (yw x1)), (0, .ref v0), (1, .ref v1), (2, .ref v2), (3, .int (yw v3)), (4, .int (yw v4)), (5, .int (yw v5)), (6, .int (yw v6)), (8, .int (yw v8))]) (st2 := []) (by simp only [yl_lit, yL_lit, yw_add, yw_sub, yw_mul, yw_neg, yl_add, yl_sub, yl_mul, cj_and, cj_or, cj_xor, cj_shl, cj_shr, cj_ushr, cj_div, cj_i2c, cj_i2b, cj_dc, ck_and, ck_or, ck_xor, ck_shl, ck_shr, ck_ushr, ck_i2l, ck_l2i, ck_cmp]) rfl ?_
      exact xZ.sub (xsc (.tail _ (.tail _ (.head _))) (xsc (.tail _ (.tail _ (.tail _ (.head _)))) (xsc (.tail _ (.tail _ (.tail _ (.tail _ (.head _))))) (xsc (.tail _ (.tail _ (.tail _ (.tail _ (.tail _ (.head _)))))) (xsc (.tail _ (.tail _ (.tail _ (.tail _ (.tail _ (.tail _ (.head _))))))) (xsc (.tail _ (.tail _ (.tail _ (.tail _ (.tail _ (.tail _ (.tail _ (.head _)))))))) (xsc (.tail _ (.tail _ (.tail _ (.tail _ (.tail _ (.tail _ (.tail _ (.tail _ (.head _))))))))) (xsc (.head _) xsn)))))))) (show ([7, 9, 0, 1, 2, 3, 4, 5, 6, 8] : List Nat).Nodup from by decide) (hK17 v0 v1 v2 v3 v4 v5 v6 (v7 + (-30)) M1)
    · skip
      refine xZ.adv (me := xm204) hP_204 2 (pc' := 215) (lv' := [(9, .int (yw x1)), (0, .ref v0), (1, .ref v1), (2, .ref v2), (3, .int (yw v3)), (4, .int (yw v4)), (5, .int (yw v5)), (6, .int (yw v6)), (7, .int (yw v7)), (8, .int (yw v8))]) (st' := [.int (-1 : Int32), .int (yw v6)]) rfl ?_
      refine xZ.eqs (lv2 := [(9, .int (yw x1)), (0, .ref v0), (1, .ref v1), (2, .ref v2), (3, .int (yw v3)), (4, .int (yw v4)), (5, .int (yw v5)), (6, .int (yw v6)), (7, .int (yw v7)), (8, .int (yw v8))]) (st2 := [.int (yw (-1)), .int (yw v6)]) rfl (by simp only [yl_lit, yL_lit, yw_add, yw_sub, yw_mul, yw_neg, yl_add, yl_sub, yl_mul, cj_and, cj_or, cj_xor, cj_shl, cj_shr, cj_ushr, cj_div, cj_i2c, cj_i2b, cj_dc, ck_and, ck_or, ck_xor, ck_shl, ck_shr, ck_ushr, ck_i2l, ck_l2i, ck_cmp]) ?_
      refine xZ.jc_eq (me := xm204) hP_204 rfl (fun h3 => ?_) (fun h3 => ?_)
      · skip
        exact xZ.sub (xsc (.tail _ (.head _)) (xsc (.tail _ (.tail _ (.head _))) (xsc (.tail _ (.tail _ (.tail _ (.head _)))) (xsc (.tail _ (.tail _ (.tail _ (.tail _ (.head _))))) (xsc (.tail _ (.tail _ (.tail _ (.tail _ (.tail _ (.head _)))))) (xsc (.tail _ (.tail _ (.tail _ (.tail _ (.tail _ (.tail _ (.head _))))))) (xsc (.tail _ (.tail _ (.tail _ (.tail _ (.tail _ (.tail _ (.tail _ (.tail _ (.head _))))))))) (xsc (.head _) xsn)))))))) (show ([9, 0, 1, 2, 3, 4, 5, 6, 7, 8] : List Nat).Nodup from by decide) (k_f_Law_least_231 O f d K17 hK17 v0 v1 v2 v3 v4 v5 v7 x1 M1)
      · skip
        refine xZ.adv (me := xm204) hP_204 2 (pc' := 222) (lv' := [(9, .int (yw x1)), (0, .ref v0), (1, .ref v1), (2, .ref v2), (3, .int (yw v3)), (4, .int (yw v4)), (5, .int (yw v5)), (6, .int (yw v6)), (7, .int (yw v7)), (8, .int (yw v8))]) (st' := [.int (yw v7), .int (yw x1)]) rfl ?_
        refine xZ.calls (κ := oJ) (av := [.int (yw v7)]) (rest := [.int (yw x1)]) (st' := fun x2 => [.int (yw x2), .int (yw x1)]) (me := xm204) hP_204 rfl rfl rfl (Nat.le_of_ble_eq_true rfl) (by decide) hP_249 (Nat.le_of_ble_eq_true rfl) (fun _ => rfl) (k_f_Math_abs O f (d + 3) v7 M1) (fun x2 M2 => ?_)
        refine xZ.adv (me := xm204) hP_204 2 (pc' := 228) (lv' := [(9, .int (yw x1)), (0, .ref v0), (1, .ref v1), (2, .ref v2), (3, .int (yw v3)), (4, .int (yw v4)), (5, .int (yw v5)), (6, .int (yw v6)), (7, .int (yw v7)), (8, .int (yw v8))]) (st' := [.int (yw v6), .int ((yw x1) + (yw x2))]) rfl ?_
        refine xZ.eqs (lv2 := [(9, .int (yw x1)), (0, .ref v0), (1, .ref v1), (2, .ref v2), (3, .int (yw v3)), (4, .int (yw v4)), (5, .int (yw v5)), (6, .int (yw v6)), (7, .int (yw v7)), (8, .int (yw v8))]) (st2 := [.int (yw v6), .int (yw (x1 + x2))]) rfl (by simp only [yl_lit, yL_lit, yw_add, yw_sub, yw_mul, yw_neg, yl_add, yl_sub, yl_mul, cj_and, cj_or, cj_xor, cj_shl, cj_shr, cj_ushr, cj_div, cj_i2c, cj_i2b, cj_dc, ck_and, ck_or, ck_xor, ck_shl, ck_shr, ck_ushr, ck_i2l, ck_l2i, ck_cmp]) ?_
        refine xZ.jc_ge (me := xm204) hP_204 rfl (fun h4 => ?_) (fun h4 => ?_)
        · skip
          refine xZ.adv (me := xm204) hP_204 2 (pc' := 17) (lv' := [(7, .int ((yw v7) + (-30 : Int32))), (9, .int (yw x1)), (0, .ref v0), (1, .ref v1), (2, .ref v2), (3, .int (yw v3)), (4, .int (yw v4)), (5, .int (yw v5)), (6, .int (yw v6)), (8, .int (yw v8))]) (st' := []) rfl ?_
          refine xZ.eqs (lv2 := [(7, .int (yw (v7 + (-30)))), (9, .int (yw x1)), (0, .ref v0), (1, .ref v1), (2, .ref v2), (3, .int (yw v3)), (4, .int (yw v4)), (5, .int (yw v5)), (6, .int (yw v6)), (8, .int (yw v8))]) (st2 := []) (by simp only [yl_lit, yL_lit, yw_add, yw_sub, yw_mul, yw_neg, yl_add, yl_sub, yl_mul, cj_and, cj_or, cj_xor, cj_shl, cj_shr, cj_ushr, cj_div, cj_i2c, cj_i2b, cj_dc, ck_and, ck_or, ck_xor, ck_shl, ck_shr, ck_ushr, ck_i2l, ck_l2i, ck_cmp]) rfl ?_
          exact xZ.sub (xsc (.tail _ (.tail _ (.head _))) (xsc (.tail _ (.tail _ (.tail _ (.head _)))) (xsc (.tail _ (.tail _ (.tail _ (.tail _ (.head _))))) (xsc (.tail _ (.tail _ (.tail _ (.tail _ (.tail _ (.head _)))))) (xsc (.tail _ (.tail _ (.tail _ (.tail _ (.tail _ (.tail _ (.head _))))))) (xsc (.tail _ (.tail _ (.tail _ (.tail _ (.tail _ (.tail _ (.tail _ (.head _)))))))) (xsc (.tail _ (.tail _ (.tail _ (.tail _ (.tail _ (.tail _ (.tail _ (.tail _ (.head _))))))))) (xsc (.head _) xsn)))))))) (show ([7, 9, 0, 1, 2, 3, 4, 5, 6, 8] : List Nat).Nodup from by decide) (hK17 v0 v1 v2 v3 v4 v5 v6 (v7 + (-30)) M2)
        · skip
          exact xZ.sub (xsc (.tail _ (.head _)) (xsc (.tail _ (.tail _ (.head _))) (xsc (.tail _ (.tail _ (.tail _ (.head _)))) (xsc (.tail _ (.tail _ (.tail _ (.tail _ (.head _))))) (xsc (.tail _ (.tail _ (.tail _ (.tail _ (.tail _ (.head _)))))) (xsc (.tail _ (.tail _ (.tail _ (.tail _ (.tail _ (.tail _ (.head _))))))) (xsc (.tail _ (.tail _ (.tail _ (.tail _ (.tail _ (.tail _ (.tail _ (.tail _ (.head _))))))))) (xsc (.head _) xsn)))))))) (show ([9, 0, 1, 2, 3, 4, 5, 6, 7, 8] : List Nat).Nodup from by decide) (k_f_Law_least_231 O f d K17 hK17 v0 v1 v2 v3 v4 v5 v7 x1 M2)
def f_Law_least_111 (O : Nat → Option va_E) (f : Nat) (K61 : Nat → Nat → Nat → Int → Int → Int → Int → Int → Int → Int → xM → Option (Int × xM)) (v0 : Nat) (v1 : Nat) (v2 : Nat) (v3 : Int) (v4 : Int) (v5 : Int) (v6 : Int) (v7 : Int) (v8 : Int) (v9 : Int) (M : xM) : Option (Int × xM) :=
  f_Law_least_112 O f K61 v0 v1 v2 v3 v4 v5 v6 v7 v8 v9 0 M
set_option maxRecDepth 20000 in
theorem k_f_Law_least_111 (O : Nat → Option va_E) (f d : Nat) (K61 : Nat → Nat → Nat → Int → Int → Int → Int → Int → Int → Int → xM → Option (Int × xM)) (hK61 : ∀ (v0 : Nat) (v1 : Nat) (v2 : Nat) (v3 : Int) (v4 : Int) (v5 : Int) (v6 : Int) (v7 : Int) (v8 : Int) (v9 : Int) M, xZ oJ O (d + 4) 204 61 [(0, .ref v0), (1, .ref v1), (2, .ref v2), (3, .int (yw v3)), (4, .int (yw v4)), (5, .int (yw v5)), (6, .int (yw v6)), (7, .int (yw v7)), (8, .int (yw v8)), (9, .int (yw v9))] [] M (K61 v0 v1 v2 v3 v4 v5 v6 v7 v8 v9 M)) (v0 : Nat) (v1 : Nat) (v2 : Nat) (v3 : Int) (v4 : Int) (v5 : Int) (v6 : Int) (v7 : Int) (v8 : Int) (v9 : Int) (M : xM) : xZ oJ O (d + 4) 204 111 [(0, .ref v0), (1, .ref v1), (2, .ref v2), (3, .int (yw v3)), (4, .int (yw v4)), (5, .int (yw v5)), (6, .int (yw v6)), (7, .int (yw v7)), (8, .int (yw v8)), (9, .int (yw v9))] [] M (f_Law_least_111 O f K61 v0 v1 v2 v3 v4 v5 v6 v7 v8 v9 M) := by
  unfold f_Law_least_111
  refine xZ.adv (me := xm204) hP_204 1 (pc' := 112) (lv' := [(0, .ref v0), (1, .ref v1), (2, .ref v2), (3, .int (yw v3)), (4, .int (yw v4)), (5, .int (yw v5)), (6, .int (yw v6)), (7, .int (yw v7)), (8, .int (yw v8)), (9, .int (yw v9))]) (st' := [.int (0 : Int32)]) rfl ?_
  refine xZ.eqs (lv2 := [(0, .ref v0), (1, .ref v1), (2, .ref v2), (3, .int (yw v3)), (4, .int (yw v4)), (5, .int (yw v5)), (6, .int (yw v6)), (7, .int (yw v7)), (8, .int (yw v8)), (9, .int (yw v9))]) (st2 := [.int (yw 0)]) rfl (by simp only [yl_lit, yL_lit, yw_add, yw_sub, yw_mul, yw_neg, yl_add, yl_sub, yl_mul, cj_and, cj_or, cj_xor, cj_shl, cj_shr, cj_ushr, cj_div, cj_i2c, cj_i2b, cj_dc, ck_and, ck_or, ck_xor, ck_shl, ck_shr, ck_ushr, ck_i2l, ck_l2i, ck_cmp]) ?_
  exact (k_f_Law_least_112 O f d K61 hK61 v0 v1 v2 v3 v4 v5 v6 v7 v8 v9 0 M)
def f_Law_least_61 (O : Nat → Option va_E) (f : Nat) (K17 : Nat → Nat → Nat → Int → Int → Int → Int → Int → xM → Option (Int × xM)) (KS : Nat → Nat → Nat → Int → Int → Int → xM → Option (Int × xM)) : Nat → Nat → Nat → Nat → Int → Int → Int → Int → Int → Int → Int → xM → Option (Int × xM)
  | 0, _, _, _, _, _, _, _, _, _, _, _ => none
  | n + 1, v0, v1, v2, v3, v4, v5, v6, v7, v8, v9, M =>
    if yw v3 ≤ yw v9 then (
      f_Law_least_183 O f K17 KS v0 v1 v2 v3 v4 v5 v6 v7 v8 M
    ) else
    if yw v8 = yw 0 then (
      f_Law_least_183 O f K17 KS v0 v1 v2 v3 v4 v5 v6 v7 v8 M
    ) else
    (aJ O M v2 v3).bind fun x1 =>
    (aJ O M v2 v9).bind fun x2 =>
    (gR O M v1 13 3).bind fun x3 =>
    (aJ O M x3 v9).bind fun x4 =>
    if yw (x2 + x4) ≤ yw x1 then (
      f_Law_least_111 O f (f_Law_least_61 O f K17 KS n) v0 v1 v2 v3 v4 v5 v6 v7 v8 v9 M
    ) else
    (aJ O M v2 v9).bind fun x5 =>
    (aJ O M v2 v3).bind fun x6 =>
    (gR O M v1 13 3).bind fun x7 =>
    (aJ O M x7 v3).bind fun x8 =>
    if yw (x6 + x8) ≤ yw x5 then (
      f_Law_least_111 O f (f_Law_least_61 O f K17 KS n) v0 v1 v2 v3 v4 v5 v6 v7 v8 v9 M
    ) else
    f_Law_least_112 O f (f_Law_least_61 O f K17 KS n) v0 v1 v2 v3 v4 v5 v6 v7 v8 v9 1 M
set_option maxRecDepth 20000 in
theorem k_f_Law_least_61 (O : Nat → Option va_E) (f d : Nat) (K17 : Nat → Nat → Nat → Int → Int → Int → Int → Int → xM → Option (Int × xM)) (KS : Nat → Nat → Nat → Int → Int → Int → xM → Option (Int × xM)) (hK17 : ∀ (v0 : Nat) (v1 : Nat) (v2 : Nat) (v3 : Int) (v4 : Int) (v5 : Int) (v6 : Int) (v7 : Int) M, xZ oJ O (d + 4) 204 17 [(0, .ref v0), (1, .ref v1), (2, .ref v2), (3, .int (yw v3)), (4, .int (yw v4)), (5, .int (yw v5)), (6, .int (yw v6)), (7, .int (yw v7))] [] M (K17 v0 v1 v2 v3 v4 v5 v6 v7 M)) (hKS : ∀ (v0 : Nat) (v1 : Nat) (v2 : Nat) (v3 : Int) (v4 : Int) (v5 : Int) M, xZ oJ O (d + 3) 204 0 [(0, .ref v0), (1, .ref v1), (2, .ref v2), (3, .int (yw v3)), (4, .int (yw v4)), (5, .int (yw v5))] [] M (KS v0 v1 v2 v3 v4 v5 M)) : ∀ (n : Nat) (v0 : Nat) (v1 : Nat) (v2 : Nat) (v3 : Int) (v4 : Int) (v5 : Int) (v6 : Int) (v7 : Int) (v8 : Int) (v9 : Int) (M : xM), xZ oJ O (d + 4) 204 61 [(0, .ref v0), (1, .ref v1), (2, .ref v2), (3, .int (yw v3)), (4, .int (yw v4)), (5, .int (yw v5)), (6, .int (yw v6)), (7, .int (yw v7)), (8, .int (yw v8)), (9, .int (yw v9))] [] M (f_Law_least_61 O f K17 KS n v0 v1 v2 v3 v4 v5 v6 v7 v8 v9 M) := by
  intro n
  induction n with
  | zero =>
    intro v0 v1 v2 v3 v4 v5 v6 v7 v8 v9 M
    exact xZ.no
  | succ n ih =>
    intro v0 v1 v2 v3 v4 v5 v6 v7 v8 v9 M
    unfold f_Law_least_61
    refine xZ.adv (me := xm204) hP_204 2 (pc' := 64) (lv' := [(0, .ref v0), (1, .ref v1), (2, .ref v2), (3, .int (yw v3)), (4, .int (yw v4)), (5, .int (yw v5)), (6, .int (yw v6)), (7, .int (yw v7)), (8, .int (yw v8)), (9, .int (yw v9))]) (st' := [.int (yw v3), .int (yw v9)]) rfl ?_
    refine xZ.jc_ge (me := xm204) hP_204 rfl (fun h1 => ?_) (fun h1 => ?_)
    · skip
      exact xZ.sub (xsc (.head _) (xsc (.tail _ (.head _)) (xsc (.tail _ (.tail _ (.head _))) (xsc (.tail _ (.tail _ (.tail _ (.head _)))) (xsc (.tail _ (.tail _ (.tail _ (.tail _ (.head _))))) (xsc (.tail _ (.tail _ (.tail _ (.tail _ (.tail _ (.head _)))))) (xsc (.tail _ (.tail _ (.tail _ (.tail _ (.tail _ (.tail _ (.head _))))))) (xsc (.tail _ (.tail _ (.tail _ (.tail _ (.tail _ (.tail _ (.tail _ (.head _)))))))) (xsc (.tail _ (.tail _ (.tail _ (.tail _ (.tail _ (.tail _ (.tail _ (.tail _ (.head _))))))))) xsn))))))))) (show ([0, 1, 2, 3, 4, 5, 6, 7, 8, 9] : List Nat).Nodup from by decide) (k_f_Law_least_183 O f d K17 KS hK17 hKS v0 v1 v2 v3 v4 v5 v6 v7 v8 M)
    · skip
      refine xZ.adv (me := xm204) hP_204 1 (pc' := 69) (lv' := [(0, .ref v0), (1, .ref v1), (2, .ref v2), (3, .int (yw v3)), (4, .int (yw v4)), (5, .int (yw v5)), (6, .int (yw v6)), (7, .int (yw v7)), (8, .int (yw v8)), (9, .int (yw v9))]) (st' := [.int (yw v8)]) rfl ?_
      refine xZ.jf_eq (me := xm204) hP_204 rfl (fun h2 => ?_) (fun h2 => ?_)
      · skip
        exact xZ.sub (xsc (.head _) (xsc (.tail _ (.head _)) (xsc (.tail _ (.tail _ (.head _))) (xsc (.tail _ (.tail _ (.tail _ (.head _)))) (xsc (.tail _ (.tail _ (.tail _ (.tail _ (.head _))))) (xsc (.tail _ (.tail _ (.tail _ (.tail _ (.tail _ (.head _)))))) (xsc (.tail _ (.tail _ (.tail _ (.tail _ (.tail _ (.tail _ (.head _))))))) (xsc (.tail _ (.tail _ (.tail _ (.tail _ (.tail _ (.tail _ (.tail _ (.head _)))))))) (xsc (.tail _ (.tail _ (.tail _ (.tail _ (.tail _ (.tail _ (.tail _ (.tail _ (.head _))))))))) xsn))))))))) (show ([0, 1, 2, 3, 4, 5, 6, 7, 8, 9] : List Nat).Nodup from by decide) (k_f_Law_least_183 O f d K17 KS hK17 hKS v0 v1 v2 v3 v4 v5 v6 v7 v8 M)
      · skip
        refine xZ.adv (me := xm204) hP_204 2 (pc' := 74) (lv' := [(0, .ref v0), (1, .ref v1), (2, .ref v2), (3, .int (yw v3)), (4, .int (yw v4)), (5, .int (yw v5)), (6, .int (yw v6)), (7, .int (yw v7)), (8, .int (yw v8)), (9, .int (yw v9))]) (st' := [.int (yw v3), .ref v2]) rfl ?_
        refine xZ.k_aJ (me := xm204) hP_204 rfl (fun x1 => ?_)
        refine xZ.adv (me := xm204) hP_204 2 (pc' := 78) (lv' := [(0, .ref v0), (1, .ref v1), (2, .ref v2), (3, .int (yw v3)), (4, .int (yw v4)), (5, .int (yw v5)), (6, .int (yw v6)), (7, .int (yw v7)), (8, .int (yw v8)), (9, .int (yw v9))]) (st' := [.int (yw v9), .ref v2, .int (yw x1)]) rfl ?_
        refine xZ.k_aJ (me := xm204) hP_204 rfl (fun x2 => ?_)
        refine xZ.adv (me := xm204) hP_204 1 (pc' := 80) (lv' := [(0, .ref v0), (1, .ref v1), (2, .ref v2), (3, .int (yw v3)), (4, .int (yw v4)), (5, .int (yw v5)), (6, .int (yw v6)), (7, .int (yw v7)), (8, .int (yw v8)), (9, .int (yw v9))]) (st' := [.ref v1, .int (yw x2), .int (yw x1)]) rfl ?_
        refine xZ.k_gR (me := xm204) hP_204 rfl (fun x3 => ?_)
        refine xZ.adv (me := xm204) hP_204 1 (pc' := 85) (lv' := [(0, .ref v0), (1, .ref v1), (2, .ref v2), (3, .int (yw v3)), (4, .int (yw v4)), (5, .int (yw v5)), (6, .int (yw v6)), (7, .int (yw v7)), (8, .int (yw v8)), (9, .int (yw v9))]) (st' := [.int (yw v9), .ref x3, .int (yw x2), .int (yw x1)]) rfl ?_
        refine xZ.k_aJ (me := xm204) hP_204 rfl (fun x4 => ?_)
        refine xZ.adv (me := xm204) hP_204 1 (pc' := 87) (lv' := [(0, .ref v0), (1, .ref v1), (2, .ref v2), (3, .int (yw v3)), (4, .int (yw v4)), (5, .int (yw v5)), (6, .int (yw v6)), (7, .int (yw v7)), (8, .int (yw v8)), (9, .int (yw v9))]) (st' := [.int ((yw x2) + (yw x4)), .int (yw x1)]) rfl ?_
        refine xZ.eqs (lv2 := [(0, .ref v0), (1, .ref v1), (2, .ref v2), (3, .int (yw v3)), (4, .int (yw v4)), (5, .int (yw v5)), (6, .int (yw v6)), (7, .int (yw v7)), (8, .int (yw v8)), (9, .int (yw v9))]) (st2 := [.int (yw (x2 + x4)), .int (yw x1)]) rfl (by simp only [yl_lit, yL_lit, yw_add, yw_sub, yw_mul, yw_neg, yl_add, yl_sub, yl_mul, cj_and, cj_or, cj_xor, cj_shl, cj_shr, cj_ushr, cj_div, cj_i2c, cj_i2b, cj_dc, ck_and, ck_or, ck_xor, ck_shl, ck_shr, ck_ushr, ck_i2l, ck_l2i, ck_cmp]) ?_
        refine xZ.jc_ge (me := xm204) hP_204 rfl (fun h3 => ?_) (fun h3 => ?_)
        · skip
          exact (k_f_Law_least_111 O f d (f_Law_least_61 O f K17 KS n) ih v0 v1 v2 v3 v4 v5 v6 v7 v8 v9 M)
        · skip
          refine xZ.adv (me := xm204) hP_204 2 (pc' := 93) (lv' := [(0, .ref v0), (1, .ref v1), (2, .ref v2), (3, .int (yw v3)), (4, .int (yw v4)), (5, .int (yw v5)), (6, .int (yw v6)), (7, .int (yw v7)), (8, .int (yw v8)), (9, .int (yw v9))]) (st' := [.int (yw v9), .ref v2]) rfl ?_
          refine xZ.k_aJ (me := xm204) hP_204 rfl (fun x5 => ?_)
          refine xZ.adv (me := xm204) hP_204 2 (pc' := 96) (lv' := [(0, .ref v0), (1, .ref v1), (2, .ref v2), (3, .int (yw v3)), (4, .int (yw v4)), (5, .int (yw v5)), (6, .int (yw v6)), (7, .int (yw v7)), (8, .int (yw v8)), (9, .int (yw v9))]) (st' := [.int (yw v3), .ref v2, .int (yw x5)]) rfl ?_
          refine xZ.k_aJ (me := xm204) hP_204 rfl (fun x6 => ?_)
          refine xZ.adv (me := xm204) hP_204 1 (pc' := 98) (lv' := [(0, .ref v0), (1, .ref v1), (2, .ref v2), (3, .int (yw v3)), (4, .int (yw v4)), (5, .int (yw v5)), (6, .int (yw v6)), (7, .int (yw v7)), (8, .int (yw v8)), (9, .int (yw v9))]) (st' := [.ref v1, .int (yw x6), .int (yw x5)]) rfl ?_
          refine xZ.k_gR (me := xm204) hP_204 rfl (fun x7 => ?_)
          refine xZ.adv (me := xm204) hP_204 1 (pc' := 102) (lv' := [(0, .ref v0), (1, .ref v1), (2, .ref v2), (3, .int (yw v3)), (4, .int (yw v4)), (5, .int (yw v5)), (6, .int (yw v6)), (7, .int (yw v7)), (8, .int (yw v8)), (9, .int (yw v9))]) (st' := [.int (yw v3), .ref x7, .int (yw x6), .int (yw x5)]) rfl ?_
          refine xZ.k_aJ (me := xm204) hP_204 rfl (fun x8 => ?_)
          refine xZ.adv (me := xm204) hP_204 1 (pc' := 104) (lv' := [(0, .ref v0), (1, .ref v1), (2, .ref v2), (3, .int (yw v3)), (4, .int (yw v4)), (5, .int (yw v5)), (6, .int (yw v6)), (7, .int (yw v7)), (8, .int (yw v8)), (9, .int (yw v9))]) (st' := [.int ((yw x6) + (yw x8)), .int (yw x5)]) rfl ?_
          refine xZ.eqs (lv2 := [(0, .ref v0), (1, .ref v1), (2, .ref v2), (3, .int (yw v3)), (4, .int (yw v4)), (5, .int (yw v5)), (6, .int (yw v6)), (7, .int (yw v7)), (8, .int (yw v8)), (9, .int (yw v9))]) (st2 := [.int (yw (x6 + x8)), .int (yw x5)]) rfl (by simp only [yl_lit, yL_lit, yw_add, yw_sub, yw_mul, yw_neg, yl_add, yl_sub, yl_mul, cj_and, cj_or, cj_xor, cj_shl, cj_shr, cj_ushr, cj_div, cj_i2c, cj_i2b, cj_dc, ck_and, ck_or, ck_xor, ck_shl, ck_shr, ck_ushr, ck_i2l, ck_l2i, ck_cmp]) ?_
          refine xZ.jc_ge (me := xm204) hP_204 rfl (fun h4 => ?_) (fun h4 => ?_)
          · skip
            exact (k_f_Law_least_111 O f d (f_Law_least_61 O f K17 KS n) ih v0 v1 v2 v3 v4 v5 v6 v7 v8 v9 M)
          · skip
            refine xZ.adv (me := xm204) hP_204 2 (pc' := 112) (lv' := [(0, .ref v0), (1, .ref v1), (2, .ref v2), (3, .int (yw v3)), (4, .int (yw v4)), (5, .int (yw v5)), (6, .int (yw v6)), (7, .int (yw v7)), (8, .int (yw v8)), (9, .int (yw v9))]) (st' := [.int (1 : Int32)]) rfl ?_
            refine xZ.eqs (lv2 := [(0, .ref v0), (1, .ref v1), (2, .ref v2), (3, .int (yw v3)), (4, .int (yw v4)), (5, .int (yw v5)), (6, .int (yw v6)), (7, .int (yw v7)), (8, .int (yw v8)), (9, .int (yw v9))]) (st2 := [.int (yw 1)]) rfl (by simp only [yl_lit, yL_lit, yw_add, yw_sub, yw_mul, yw_neg, yl_add, yl_sub, yl_mul, cj_and, cj_or, cj_xor, cj_shl, cj_shr, cj_ushr, cj_div, cj_i2c, cj_i2b, cj_dc, ck_and, ck_or, ck_xor, ck_shl, ck_shr, ck_ushr, ck_i2l, ck_l2i, ck_cmp]) ?_
            exact (k_f_Law_least_112 O f d (f_Law_least_61 O f K17 KS n) ih v0 v1 v2 v3 v4 v5 v6 v7 v8 v9 1 M)
def f_Law_least_17 (O : Nat → Option va_E) (f : Nat) (KS : Nat → Nat → Nat → Int → Int → Int → xM → Option (Int × xM)) : Nat → Nat → Nat → Nat → Int → Int → Int → Int → Int → xM → Option (Int × xM)
  | 0, _, _, _, _, _, _, _, _, _ => none
  | n + 1, v0, v1, v2, v3, v4, v5, v6, v7, M =>
    if yw v7 < yw (-120) then (
      some (v6, M)
    ) else
    (gR O M v1 13 2).bind fun x1 =>
    (aJ O M x1 v3).bind fun x2 =>
    (wJ M v2 v3 (x2 + v7)).bind fun M1 =>
    (aJ O M1 v2 v3).bind fun x3 =>
    if yw x3 < yw v4 then (
      f_Law_least_17 O f KS n v0 v1 v2 v3 v4 v5 v6 (v7 + (-30)) M1
    ) else
    (aJ O M1 v2 v3).bind fun x4 =>
    if yw x4 < yw v5 then (
      f_Law_least_61 O f (f_Law_least_17 O f KS n) KS f v0 v1 v2 v3 v4 v5 v6 v7 1 0 M1
    ) else
    f_Law_least_17 O f KS n v0 v1 v2 v3 v4 v5 v6 (v7 + (-30)) M1
set_option maxRecDepth 20000 in
theorem k_f_Law_least_17 (O : Nat → Option va_E) (f d : Nat) (KS : Nat → Nat → Nat → Int → Int → Int → xM → Option (Int × xM)) (hKS : ∀ (v0 : Nat) (v1 : Nat) (v2 : Nat) (v3 : Int) (v4 : Int) (v5 : Int) M, xZ oJ O (d + 3) 204 0 [(0, .ref v0), (1, .ref v1), (2, .ref v2), (3, .int (yw v3)), (4, .int (yw v4)), (5, .int (yw v5))] [] M (KS v0 v1 v2 v3 v4 v5 M)) : ∀ (n : Nat) (v0 : Nat) (v1 : Nat) (v2 : Nat) (v3 : Int) (v4 : Int) (v5 : Int) (v6 : Int) (v7 : Int) (M : xM), xZ oJ O (d + 4) 204 17 [(0, .ref v0), (1, .ref v1), (2, .ref v2), (3, .int (yw v3)), (4, .int (yw v4)), (5, .int (yw v5)), (6, .int (yw v6)), (7, .int (yw v7))] [] M (f_Law_least_17 O f KS n v0 v1 v2 v3 v4 v5 v6 v7 M) := by
  intro n
  induction n with
  | zero =>
    intro v0 v1 v2 v3 v4 v5 v6 v7 M
    exact xZ.no
  | succ n ih =>
    intro v0 v1 v2 v3 v4 v5 v6 v7 M
    unfold f_Law_least_17
    refine xZ.adv (me := xm204) hP_204 2 (pc' := 21) (lv' := [(0, .ref v0), (1, .ref v1), (2, .ref v2), (3, .int (yw v3)), (4, .int (yw v4)), (5, .int (yw v5)), (6, .int (yw v6)), (7, .int (yw v7))]) (st' := [.int (-120 : Int32), .int (yw v7)]) rfl ?_
    refine xZ.eqs (lv2 := [(0, .ref v0), (1, .ref v1), (2, .ref v2), (3, .int (yw v3)), (4, .int (yw v4)), (5, .int (yw v5)), (6, .int (yw v6)), (7, .int (yw v7))]) (st2 := [.int (yw (-120)), .int (yw v7)]) rfl (by simp only [yl_lit, yL_lit, yw_add, yw_sub, yw_mul, yw_neg, yl_add, yl_sub, yl_mul, cj_and, cj_or, cj_xor, cj_shl, cj_shr, cj_ushr, cj_div, cj_i2c, cj_i2b, cj_dc, ck_and, ck_or, ck_xor, ck_shl, ck_shr, ck_ushr, ck_i2l, ck_l2i, ck_cmp]) ?_
    refine xZ.jc_lt (me := xm204) hP_204 rfl (fun h1 => ?_) (fun h1 => ?_)
    · skip
      refine xZ.adv (me := xm204) hP_204 1 (pc' := 249) (lv' := [(0, .ref v0), (1, .ref v1), (2, .ref v2), (3, .int (yw v3)), (4, .int (yw v4)), (5, .int (yw v5)), (6, .int (yw v6)), (7, .int (yw v7))]) (st' := [.int (yw v6)]) rfl ?_
      exact xZ.jreti (me := xm204) hP_204 rfl rfl
    · skip
      refine xZ.adv (me := xm204) hP_204 3 (pc' := 27) (lv' := [(0, .ref v0), (1, .ref v1), (2, .ref v2), (3, .int (yw v3)), (4, .int (yw v4)), (5, .int (yw v5)), (6, .int (yw v6)), (7, .int (yw v7))]) (st' := [.ref v1, .int (yw v3), .ref v2]) rfl ?_
      refine xZ.k_gR (me := xm204) hP_204 rfl (fun x1 => ?_)
      refine xZ.adv (me := xm204) hP_204 1 (pc' := 31) (lv' := [(0, .ref v0), (1, .ref v1), (2, .ref v2), (3, .int (yw v3)), (4, .int (yw v4)), (5, .int (yw v5)), (6, .int (yw v6)), (7, .int (yw v7))]) (st' := [.int (yw v3), .ref x1, .int (yw v3), .ref v2]) rfl ?_
      refine xZ.k_aJ (me := xm204) hP_204 rfl (fun x2 => ?_)
      refine xZ.adv (me := xm204) hP_204 2 (pc' := 35) (lv' := [(0, .ref v0), (1, .ref v1), (2, .ref v2), (3, .int (yw v3)), (4, .int (yw v4)), (5, .int (yw v5)), (6, .int (yw v6)), (7, .int (yw v7))]) (st' := [.int ((yw x2) + (yw v7)), .int (yw v3), .ref v2]) rfl ?_
      refine xZ.eqs (lv2 := [(0, .ref v0), (1, .ref v1), (2, .ref v2), (3, .int (yw v3)), (4, .int (yw v4)), (5, .int (yw v5)), (6, .int (yw v6)), (7, .int (yw v7))]) (st2 := [.int (yw (x2 + v7)), .int (yw v3), .ref v2]) rfl (by simp only [yl_lit, yL_lit, yw_add, yw_sub, yw_mul, yw_neg, yl_add, yl_sub, yl_mul, cj_and, cj_or, cj_xor, cj_shl, cj_shr, cj_ushr, cj_div, cj_i2c, cj_i2b, cj_dc, ck_and, ck_or, ck_xor, ck_shl, ck_shr, ck_ushr, ck_i2l, ck_l2i, ck_cmp]) ?_
      refine xZ.k_wJ (me := xm204) hP_204 rfl (fun M1 => ?_)
      refine xZ.adv (me := xm204) hP_204 2 (pc' := 38) (lv' := [(0, .ref v0), (1, .ref v1), (2, .ref v2), (3, .int (yw v3)), (4, .int (yw v4)), (5, .int (yw v5)), (6, .int (yw v6)), (7, .int (yw v7))]) (st' := [.int (yw v3), .ref v2]) rfl ?_
      refine xZ.k_aJ (me := xm204) hP_204 rfl (fun x3 => ?_)
      refine xZ.adv (me := xm204) hP_204 1 (pc' := 41) (lv' := [(0, .ref v0), (1, .ref v1), (2, .ref v2), (3, .int (yw v3)), (4, .int (yw v4)), (5, .int (yw v5)), (6, .int (yw v6)), (7, .int (yw v7))]) (st' := [.int (yw v4), .int (yw x3)]) rfl ?_
      refine xZ.jc_lt (me := xm204) hP_204 rfl (fun h2 => ?_) (fun h2 => ?_)
      · skip
        refine xZ.adv (me := xm204) hP_204 2 (pc' := 17) (lv' := [(7, .int ((yw v7) + (-30 : Int32))), (0, .ref v0), (1, .ref v1), (2, .ref v2), (3, .int (yw v3)), (4, .int (yw v4)), (5, .int (yw v5)), (6, .int (yw v6))]) (st' := []) rfl ?_
        refine xZ.eqs (lv2 := [(7, .int (yw (v7 + (-30)))), (0, .ref v0), (1, .ref v1), (2, .ref v2), (3, .int (yw v3)), (4, .int (yw v4)), (5, .int (yw v5)), (6, .int (yw v6))]) (st2 := []) (by simp only [yl_lit, yL_lit, yw_add, yw_sub, yw_mul, yw_neg, yl_add, yl_sub, yl_mul, cj_and, cj_or, cj_xor, cj_shl, cj_shr, cj_ushr, cj_div, cj_i2c, cj_i2b, cj_dc, ck_and, ck_or, ck_xor, ck_shl, ck_shr, ck_ushr, ck_i2l, ck_l2i, ck_cmp]) rfl ?_
        exact xZ.sub (xsc (.tail _ (.head _)) (xsc (.tail _ (.tail _ (.head _))) (xsc (.tail _ (.tail _ (.tail _ (.head _)))) (xsc (.tail _ (.tail _ (.tail _ (.tail _ (.head _))))) (xsc (.tail _ (.tail _ (.tail _ (.tail _ (.tail _ (.head _)))))) (xsc (.tail _ (.tail _ (.tail _ (.tail _ (.tail _ (.tail _ (.head _))))))) (xsc (.tail _ (.tail _ (.tail _ (.tail _ (.tail _ (.tail _ (.tail _ (.head _)))))))) (xsc (.head _) xsn)))))))) (show ([7, 0, 1, 2, 3, 4, 5, 6] : List Nat).Nodup from by decide) (ih v0 v1 v2 v3 v4 v5 v6 (v7 + (-30)) M1)
      · skip
        refine xZ.adv (me := xm204) hP_204 2 (pc' := 46) (lv' := [(0, .ref v0), (1, .ref v1), (2, .ref v2), (3, .int (yw v3)), (4, .int (yw v4)), (5, .int (yw v5)), (6, .int (yw v6)), (7, .int (yw v7))]) (st' := [.int (yw v3), .ref v2]) rfl ?_
        refine xZ.k_aJ (me := xm204) hP_204 rfl (fun x4 => ?_)
        refine xZ.adv (me := xm204) hP_204 1 (pc' := 49) (lv' := [(0, .ref v0), (1, .ref v1), (2, .ref v2), (3, .int (yw v3)), (4, .int (yw v4)), (5, .int (yw v5)), (6, .int (yw v6)), (7, .int (yw v7))]) (st' := [.int (yw v5), .int (yw x4)]) rfl ?_
        refine xZ.jc_lt (me := xm204) hP_204 rfl (fun h3 => ?_) (fun h3 => ?_)
        · skip
          refine xZ.adv (me := xm204) hP_204 4 (pc' := 61) (lv' := [(9, .int (0 : Int32)), (8, .int (1 : Int32)), (0, .ref v0), (1, .ref v1), (2, .ref v2), (3, .int (yw v3)), (4, .int (yw v4)), (5, .int (yw v5)), (6, .int (yw v6)), (7, .int (yw v7))]) (st' := []) rfl ?_
          refine xZ.eqs (lv2 := [(9, .int (yw 0)), (8, .int (yw 1)), (0, .ref v0), (1, .ref v1), (2, .ref v2), (3, .int (yw v3)), (4, .int (yw v4)), (5, .int (yw v5)), (6, .int (yw v6)), (7, .int (yw v7))]) (st2 := []) (by simp only [yl_lit, yL_lit, yw_add, yw_sub, yw_mul, yw_neg, yl_add, yl_sub, yl_mul, cj_and, cj_or, cj_xor, cj_shl, cj_shr, cj_ushr, cj_div, cj_i2c, cj_i2b, cj_dc, ck_and, ck_or, ck_xor, ck_shl, ck_shr, ck_ushr, ck_i2l, ck_l2i, ck_cmp]) rfl ?_
          exact xZ.sub (xsc (.tail _ (.tail _ (.head _))) (xsc (.tail _ (.tail _ (.tail _ (.head _)))) (xsc (.tail _ (.tail _ (.tail _ (.tail _ (.head _))))) (xsc (.tail _ (.tail _ (.tail _ (.tail _ (.tail _ (.head _)))))) (xsc (.tail _ (.tail _ (.tail _ (.tail _ (.tail _ (.tail _ (.head _))))))) (xsc (.tail _ (.tail _ (.tail _ (.tail _ (.tail _ (.tail _ (.tail _ (.head _)))))))) (xsc (.tail _ (.tail _ (.tail _ (.tail _ (.tail _ (.tail _ (.tail _ (.tail _ (.head _))))))))) (xsc (.tail _ (.tail _ (.tail _ (.tail _ (.tail _ (.tail _ (.tail _ (.tail _ (.tail _ (.head _)))))))))) (xsc (.tail _ (.head _)) (xsc (.head _) xsn)))))))))) (show ([9, 8, 0, 1, 2, 3, 4, 5, 6, 7] : List Nat).Nodup from by decide) (k_f_Law_least_61 O f d (f_Law_least_17 O f KS n) KS ih hKS f v0 v1 v2 v3 v4 v5 v6 v7 1 0 M1)
        · skip
          refine xZ.adv (me := xm204) hP_204 3 (pc' := 17) (lv' := [(7, .int ((yw v7) + (-30 : Int32))), (0, .ref v0), (1, .ref v1), (2, .ref v2), (3, .int (yw v3)), (4, .int (yw v4)), (5, .int (yw v5)), (6, .int (yw v6))]) (st' := []) rfl ?_
          refine xZ.eqs (lv2 := [(7, .int (yw (v7 + (-30)))), (0, .ref v0), (1, .ref v1), (2, .ref v2), (3, .int (yw v3)), (4, .int (yw v4)), (5, .int (yw v5)), (6, .int (yw v6))]) (st2 := []) (by simp only [yl_lit, yL_lit, yw_add, yw_sub, yw_mul, yw_neg, yl_add, yl_sub, yl_mul, cj_and, cj_or, cj_xor, cj_shl, cj_shr, cj_ushr, cj_div, cj_i2c, cj_i2b, cj_dc, ck_and, ck_or, ck_xor, ck_shl, ck_shr, ck_ushr, ck_i2l, ck_l2i, ck_cmp]) rfl ?_
          exact xZ.sub (xsc (.tail _ (.head _)) (xsc (.tail _ (.tail _ (.head _))) (xsc (.tail _ (.tail _ (.tail _ (.head _)))) (xsc (.tail _ (.tail _ (.tail _ (.tail _ (.head _))))) (xsc (.tail _ (.tail _ (.tail _ (.tail _ (.tail _ (.head _)))))) (xsc (.tail _ (.tail _ (.tail _ (.tail _ (.tail _ (.tail _ (.head _))))))) (xsc (.tail _ (.tail _ (.tail _ (.tail _ (.tail _ (.tail _ (.tail _ (.head _)))))))) (xsc (.head _) xsn)))))))) (show ([7, 0, 1, 2, 3, 4, 5, 6] : List Nat).Nodup from by decide) (ih v0 v1 v2 v3 v4 v5 v6 (v7 + (-30)) M1)
def f_Law_least (O : Nat → Option va_E) (f : Nat) : Nat → Nat → Nat → Nat → Int → Int → Int → xM → Option (Int × xM)
  | 0, _, _, _, _, _, _, _ => none
  | n + 1, v0, v1, v2, v3, v4, v5, M =>
    (gJ O M v1 13 4).bind fun x1 =>
    if yw v3 = yw x1 then (
      some (0, M)
    ) else
    f_Law_least_17 O f (f_Law_least O f n) f v0 v1 v2 v3 v4 v5 (-1) 120 M
set_option maxRecDepth 20000 in
theorem k_f_Law_least (O : Nat → Option va_E) (f : Nat) : ∀ (n d : Nat) (v0 : Nat) (v1 : Nat) (v2 : Nat) (v3 : Int) (v4 : Int) (v5 : Int) (M : xM), xZ oJ O (d + n + 4) 204 0 [(0, .ref v0), (1, .ref v1), (2, .ref v2), (3, .int (yw v3)), (4, .int (yw v4)), (5, .int (yw v5))] [] M (f_Law_least O f n v0 v1 v2 v3 v4 v5 M) := by
  intro n
  induction n with
  | zero =>
    intro d v0 v1 v2 v3 v4 v5 M
    exact xZ.no
  | succ n ih =>
    intro d v0 v1 v2 v3 v4 v5 M
    have hKS : ∀ (v0 : Nat) (v1 : Nat) (v2 : Nat) (v3 : Int) (v4 : Int) (v5 : Int) M, xZ oJ O (d + n + 4) 204 0 [(0, .ref v0), (1, .ref v1), (2, .ref v2), (3, .int (yw v3)), (4, .int (yw v4)), (5, .int (yw v5))] [] M (f_Law_least O f n v0 v1 v2 v3 v4 v5 M) := fun v0 v1 v2 v3 v4 v5 M => ih d v0 v1 v2 v3 v4 v5 M
    unfold f_Law_least
    refine xZ.adv (me := xm204) hP_204 2 (pc' := 2) (lv' := [(0, .ref v0), (1, .ref v1), (2, .ref v2), (3, .int (yw v3)), (4, .int (yw v4)), (5, .int (yw v5))]) (st' := [.ref v1, .int (yw v3)]) rfl ?_
    refine xZ.k_gJ (me := xm204) hP_204 rfl (fun x1 => ?_)
    refine xZ.jc_ne (me := xm204) hP_204 rfl (fun h1 => ?_) (fun h1 => ?_)
    · skip
      refine xZ.adv (me := xm204) hP_204 1 (pc' := 9) (lv' := [(0, .ref v0), (1, .ref v1), (2, .ref v2), (3, .int (yw v3)), (4, .int (yw v4)), (5, .int (yw v5))]) (st' := [.int (0 : Int32)]) rfl ?_
      refine xZ.eqs (lv2 := [(0, .ref v0), (1, .ref v1), (2, .ref v2), (3, .int (yw v3)), (4, .int (yw v4)), (5, .int (yw v5))]) (st2 := [.int (yw 0)]) rfl (by simp only [yl_lit, yL_lit, yw_add, yw_sub, yw_mul, yw_neg, yl_add, yl_sub, yl_mul, cj_and, cj_or, cj_xor, cj_shl, cj_shr, cj_ushr, cj_div, cj_i2c, cj_i2b, cj_dc, ck_and, ck_or, ck_xor, ck_shl, ck_shr, ck_ushr, ck_i2l, ck_l2i, ck_cmp]) ?_
      exact xZ.jreti (me := xm204) hP_204 rfl rfl
    · skip
      refine xZ.adv (me := xm204) hP_204 4 (pc' := 17) (lv' := [(7, .int (120 : Int32)), (6, .int (-1 : Int32)), (0, .ref v0), (1, .ref v1), (2, .ref v2), (3, .int (yw v3)), (4, .int (yw v4)), (5, .int (yw v5))]) (st' := []) rfl ?_
      refine xZ.eqs (lv2 := [(7, .int (yw 120)), (6, .int (yw (-1))), (0, .ref v0), (1, .ref v1), (2, .ref v2), (3, .int (yw v3)), (4, .int (yw v4)), (5, .int (yw v5))]) (st2 := []) (by simp only [yl_lit, yL_lit, yw_add, yw_sub, yw_mul, yw_neg, yl_add, yl_sub, yl_mul, cj_and, cj_or, cj_xor, cj_shl, cj_shr, cj_ushr, cj_div, cj_i2c, cj_i2b, cj_dc, ck_and, ck_or, ck_xor, ck_shl, ck_shr, ck_ushr, ck_i2l, ck_l2i, ck_cmp]) rfl ?_
      exact xZ.sub (xsc (.tail _ (.tail _ (.head _))) (xsc (.tail _ (.tail _ (.tail _ (.head _)))) (xsc (.tail _ (.tail _ (.tail _ (.tail _ (.head _))))) (xsc (.tail _ (.tail _ (.tail _ (.tail _ (.tail _ (.head _)))))) (xsc (.tail _ (.tail _ (.tail _ (.tail _ (.tail _ (.tail _ (.head _))))))) (xsc (.tail _ (.tail _ (.tail _ (.tail _ (.tail _ (.tail _ (.tail _ (.head _)))))))) (xsc (.tail _ (.head _)) (xsc (.head _) xsn)))))))) (show ([7, 6, 0, 1, 2, 3, 4, 5] : List Nat).Nodup from by decide) (k_f_Law_least_17 O f (d + n + 1) (f_Law_least O f n) hKS f v0 v1 v2 v3 v4 v5 (-1) 120 M)
def f_Planner_fill_14 (O : Nat → Option va_E) (f : Nat) : Nat → Nat → Nat → Nat → Int → xM → Option (Unit × xM)
  | 0, _, _, _, _, _ => none
  | n + 1, v0, v1, v2, v3, M =>
    (gJ O M v0 7 1).bind fun x1 =>
    if yw x1 ≤ yw v3 then (
      some ((), M)
    ) else
    if yw 5 ≤ yw v3 then (
      some ((), M)
    ) else
    (gR O M v0 7 2).bind fun x2 =>
    (isO O M v1 2).bind fun _ =>
    xcl (f_Dates_rowAt O f v1 v3 M) fun x3 M1 =>
    (wK M1 x2 v3 x3).bind fun M2 =>
    (gR O M2 v0 7 3).bind fun x4 =>
    (isO O M2 v1 2).bind fun _ =>
    xcl (f_Dates_lengthAt O f v1 v3 M2) fun x5 M3 =>
    (wJ M3 x4 v3 x5).bind fun M4 =>
    (gR O M4 v0 7 4).bind fun x6 =>
    (gR O M4 v0 7 2).bind fun x7 =>
    (aK O M4 x7 v3).bind fun x8 =>
    xcl (f_Dates_numberOf O f x8 M4) fun x9 M5 =>
    (isO O M5 v2 4).bind fun _ =>
    xcl (f_Hall_anySeries O f v2 x9 M5) fun x10 M6 =>
    (isO O M6 x10 10).bind fun _ =>
    xcl (f_Series_takers O f x10 M6) fun x11 M7 =>
    (wJ M7 x6 v3 x11).bind fun M8 =>
    f_Planner_fill_14 O f n v0 v1 v2 (v3 + 1) M8
set_option maxRecDepth 20000 in
theorem k_f_Planner_fill_14 (O : Nat → Option va_E) (f d : Nat) : ∀ (n : Nat) (v0 : Nat) (v1 : Nat) (v2 : Nat) (v3 : Int) (M : xM), xZ oU O (d + 2) 206 14 [(0, .ref v0), (1, .ref v1), (2, .ref v2), (3, .int (yw v3))] [] M (f_Planner_fill_14 O f n v0 v1 v2 v3 M) := by
  intro n
  induction n with
  | zero =>
    intro v0 v1 v2 v3 M
    exact xZ.no
  | succ n ih =>
    intro v0 v1 v2 v3 M
    unfold f_Planner_fill_14
    refine xZ.adv (me := xm206) hP_206 2 (pc' := 16) (lv' := [(0, .ref v0), (1, .ref v1), (2, .ref v2), (3, .int (yw v3))]) (st' := [.ref v0, .int (yw v3)]) rfl ?_
    refine xZ.k_gJ (me := xm206) hP_206 rfl (fun x1 => ?_)
    refine xZ.jc_ge (me := xm206) hP_206 rfl (fun h1 => ?_) (fun h1 => ?_)
    · skip
      exact xZ.retu (me := xm206) hP_206 rfl rfl
    · skip
      refine xZ.adv (me := xm206) hP_206 2 (pc' := 24) (lv' := [(0, .ref v0), (1, .ref v1), (2, .ref v2), (3, .int (yw v3))]) (st' := [.int (5 : Int32), .int (yw v3)]) rfl ?_
      refine xZ.eqs (lv2 := [(0, .ref v0), (1, .ref v1), (2, .ref v2), (3, .int (yw v3))]) (st2 := [.int (yw 5), .int (yw v3)]) rfl (by simp only [yl_lit, yL_lit, yw_add, yw_sub, yw_mul, yw_neg, yl_add, yl_sub, yl_mul, cj_and, cj_or, cj_xor, cj_shl, cj_shr, cj_ushr, cj_div, cj_i2c, cj_i2b, cj_dc, ck_and, ck_or, ck_xor, ck_shl, ck_shr, ck_ushr, ck_i2l, ck_l2i, ck_cmp]) ?_
      refine xZ.jc_ge (me := xm206) hP_206 rfl (fun h2 => ?_) (fun h2 => ?_)
      · skip
        exact xZ.retu (me := xm206) hP_206 rfl rfl
      · skip
        refine xZ.adv (me := xm206) hP_206 1 (pc' := 28) (lv' := [(0, .ref v0), (1, .ref v1), (2, .ref v2), (3, .int (yw v3))]) (st' := [.ref v0]) rfl ?_
        refine xZ.k_gR (me := xm206) hP_206 rfl (fun x2 => ?_)
        refine xZ.adv (me := xm206) hP_206 3 (pc' := 34) (lv' := [(0, .ref v0), (1, .ref v1), (2, .ref v2), (3, .int (yw v3))]) (st' := [.int (yw v3), .ref v1, .int (yw v3), .ref x2]) rfl ?_
        refine xZ.callv (κ := oK) (av := [.int (yw v3)]) (rest := [.int (yw v3), .ref x2]) (st' := fun x3 => [.long (yl x3), .int (yw v3), .ref x2]) (k0 := v1) (me := xm206) hP_206 rfl (Or.inl rfl) ⟨rfl, by decide⟩ rfl rfl (Nat.le_of_ble_eq_true rfl) (by decide) hP_167 (Nat.le_of_ble_eq_true rfl) (fun _ => rfl) (k_f_Dates_rowAt O f (d + 1) v1 v3 M) (fun x3 M1 => ?_)
        refine xZ.k_wK (me := xm206) hP_206 rfl (fun M2 => ?_)
        refine xZ.adv (me := xm206) hP_206 1 (pc' := 39) (lv' := [(0, .ref v0), (1, .ref v1), (2, .ref v2), (3, .int (yw v3))]) (st' := [.ref v0]) rfl ?_
        refine xZ.k_gR (me := xm206) hP_206 rfl (fun x4 => ?_)
        refine xZ.adv (me := xm206) hP_206 3 (pc' := 45) (lv' := [(0, .ref v0), (1, .ref v1), (2, .ref v2), (3, .int (yw v3))]) (st' := [.int (yw v3), .ref v1, .int (yw v3), .ref x4]) rfl ?_
        refine xZ.callv (κ := oJ) (av := [.int (yw v3)]) (rest := [.int (yw v3), .ref x4]) (st' := fun x5 => [.int (yw x5), .int (yw v3), .ref x4]) (k0 := v1) (me := xm206) hP_206 rfl (Or.inl rfl) ⟨rfl, by decide⟩ rfl rfl (Nat.le_of_ble_eq_true rfl) (by decide) hP_173 (Nat.le_of_ble_eq_true rfl) (fun _ => rfl) (k_f_Dates_lengthAt O f (d + 0) v1 v3 M2) (fun x5 M3 => ?_)
        refine xZ.k_wJ (me := xm206) hP_206 rfl (fun M4 => ?_)
        refine xZ.adv (me := xm206) hP_206 1 (pc' := 50) (lv' := [(0, .ref v0), (1, .ref v1), (2, .ref v2), (3, .int (yw v3))]) (st' := [.ref v0]) rfl ?_
        refine xZ.k_gR (me := xm206) hP_206 rfl (fun x6 => ?_)
        refine xZ.adv (me := xm206) hP_206 3 (pc' := 56) (lv' := [(0, .ref v0), (1, .ref v1), (2, .ref v2), (3, .int (yw v3))]) (st' := [.ref v0, .ref v2, .int (yw v3), .ref x6]) rfl ?_
        refine xZ.k_gR (me := xm206) hP_206 rfl (fun x7 => ?_)
        refine xZ.adv (me := xm206) hP_206 1 (pc' := 60) (lv' := [(0, .ref v0), (1, .ref v1), (2, .ref v2), (3, .int (yw v3))]) (st' := [.int (yw v3), .ref x7, .ref v2, .int (yw v3), .ref x6]) rfl ?_
        refine xZ.k_aK (me := xm206) hP_206 rfl (fun x8 => ?_)
        refine xZ.calls (κ := oJ) (av := [.long (yl x8)]) (rest := [.ref v2, .int (yw v3), .ref x6]) (st' := fun x9 => [.int (yw x9), .ref v2, .int (yw v3), .ref x6]) (me := xm206) hP_206 rfl rfl rfl (Nat.le_of_ble_eq_true rfl) (by decide) hP_174 (Nat.le_of_ble_eq_true rfl) (fun _ => rfl) (k_f_Dates_numberOf O f (d + 1) x8 M4) (fun x9 M5 => ?_)
        refine xZ.callv (κ := oR) (av := [.int (yw x9)]) (rest := [.int (yw v3), .ref x6]) (st' := fun x10 => [.ref x10, .int (yw v3), .ref x6]) (k0 := v2) (me := xm206) hP_206 rfl (Or.inl rfl) ⟨rfl, by decide⟩ rfl rfl (Nat.le_of_ble_eq_true rfl) (by decide) hP_29 (Nat.le_of_ble_eq_true rfl) (fun _ => rfl) (k_f_Hall_anySeries O f (d + 1) v2 x9 M5) (fun x10 M6 => ?_)
        refine xZ.callv (κ := oJ) (av := []) (rest := [.int (yw v3), .ref x6]) (st' := fun x11 => [.int (yw x11), .int (yw v3), .ref x6]) (k0 := x10) (me := xm206) hP_206 rfl (Or.inl rfl) ⟨rfl, by decide⟩ rfl rfl (Nat.le_of_ble_eq_true rfl) (by decide) hP_159 (Nat.le_of_ble_eq_true rfl) (fun _ => rfl) (k_f_Series_takers O f (d + 1) x10 M6) (fun x11 M7 => ?_)
        refine xZ.k_wJ (me := xm206) hP_206 rfl (fun M8 => ?_)
        refine xZ.adv (me := xm206) hP_206 2 (pc' := 14) (lv' := [(3, .int ((yw v3) + (1 : Int32))), (0, .ref v0), (1, .ref v1), (2, .ref v2)]) (st' := []) rfl ?_
        refine xZ.eqs (lv2 := [(3, .int (yw (v3 + 1))), (0, .ref v0), (1, .ref v1), (2, .ref v2)]) (st2 := []) (by simp only [yl_lit, yL_lit, yw_add, yw_sub, yw_mul, yw_neg, yl_add, yl_sub, yl_mul, cj_and, cj_or, cj_xor, cj_shl, cj_shr, cj_ushr, cj_div, cj_i2c, cj_i2b, cj_dc, ck_and, ck_or, ck_xor, ck_shl, ck_shr, ck_ushr, ck_i2l, ck_l2i, ck_cmp]) rfl ?_
        exact xZ.sub (xsc (.tail _ (.head _)) (xsc (.tail _ (.tail _ (.head _))) (xsc (.tail _ (.tail _ (.tail _ (.head _)))) (xsc (.head _) xsn)))) (show ([3, 0, 1, 2] : List Nat).Nodup from by decide) (ih v0 v1 v2 (v3 + 1) M8)
def f_Planner_fill (O : Nat → Option va_E) (f : Nat) (v0 : Nat) (v1 : Nat) (v2 : Nat) (M : xM) : Option (Unit × xM) :=
  (gJ O M v1 2 0).bind fun x1 =>
  xcl (f_Math_min O f x1 5 M) fun x2 M1 =>
  (pJ M1 v0 7 1 x2).bind fun M2 =>
  f_Planner_fill_14 O f f v0 v1 v2 0 M2
set_option maxRecDepth 20000 in
theorem k_f_Planner_fill (O : Nat → Option va_E) (f d : Nat) (v0 : Nat) (v1 : Nat) (v2 : Nat) (M : xM) : xZ oU O (d + 2) 206 0 [(0, .ref v0), (1, .ref v1), (2, .ref v2)] [] M (f_Planner_fill O f v0 v1 v2 M) := by
  unfold f_Planner_fill
  refine xZ.adv (me := xm206) hP_206 2 (pc' := 2) (lv' := [(0, .ref v0), (1, .ref v1), (2, .ref v2)]) (st' := [.ref v1, .ref v0]) rfl ?_
  refine xZ.k_gJ (me := xm206) hP_206 rfl (fun x1 => ?_)
  refine xZ.adv (me := xm206) hP_206 1 (pc' := 6) (lv' := [(0, .ref v0), (1, .ref v1), (2, .ref v2)]) (st' := [.int (5 : Int32), .int (yw x1), .ref v0]) rfl ?_
  refine xZ.eqs (lv2 := [(0, .ref v0), (1, .ref v1), (2, .ref v2)]) (st2 := [.int (yw 5), .int (yw x1), .ref v0]) rfl (by simp only [yl_lit, yL_lit, yw_add, yw_sub, yw_mul, yw_neg, yl_add, yl_sub, yl_mul, cj_and, cj_or, cj_xor, cj_shl, cj_shr, cj_ushr, cj_div, cj_i2c, cj_i2b, cj_dc, ck_and, ck_or, ck_xor, ck_shl, ck_shr, ck_ushr, ck_i2l, ck_l2i, ck_cmp]) ?_
  refine xZ.calls (κ := oJ) (av := [.int (yw x1), .int (yw 5)]) (rest := [.ref v0]) (st' := fun x2 => [.int (yw x2), .ref v0]) (me := xm206) hP_206 rfl rfl rfl (Nat.le_of_ble_eq_true rfl) (by decide) hP_248 (Nat.le_of_ble_eq_true rfl) (fun _ => rfl) (k_f_Math_min O f (d + 1) x1 5 M) (fun x2 M1 => ?_)
  refine xZ.k_pJ (me := xm206) hP_206 rfl (fun M2 => ?_)
  refine xZ.adv (me := xm206) hP_206 2 (pc' := 14) (lv' := [(3, .int (0 : Int32)), (0, .ref v0), (1, .ref v1), (2, .ref v2)]) (st' := []) rfl ?_
  refine xZ.eqs (lv2 := [(3, .int (yw 0)), (0, .ref v0), (1, .ref v1), (2, .ref v2)]) (st2 := []) (by simp only [yl_lit, yL_lit, yw_add, yw_sub, yw_mul, yw_neg, yl_add, yl_sub, yl_mul, cj_and, cj_or, cj_xor, cj_shl, cj_shr, cj_ushr, cj_div, cj_i2c, cj_i2b, cj_dc, ck_and, ck_or, ck_xor, ck_shl, ck_shr, ck_ushr, ck_i2l, ck_l2i, ck_cmp]) rfl ?_
  exact xZ.sub (xsc (.tail _ (.head _)) (xsc (.tail _ (.tail _ (.head _))) (xsc (.tail _ (.tail _ (.tail _ (.head _)))) (xsc (.head _) xsn)))) (show ([3, 0, 1, 2] : List Nat).Nodup from by decide) (k_f_Planner_fill_14 O f d f v0 v1 v2 0 M2)
def f_Planner_count (O : Nat → Option va_E) (f : Nat) (v0 : Nat) (M : xM) : Option (Int × xM) :=
  (gJ O M v0 7 1).bind fun x1 =>
  xcl (f_Math_min O f x1 5 M) fun x2 M1 =>
  xcl (f_Math_max O f 0 x2 M1) fun x3 M2 =>
  some (x3, M2)
set_option maxRecDepth 20000 in
theorem k_f_Planner_count (O : Nat → Option va_E) (f d : Nat) (v0 : Nat) (M : xM) : xZ oJ O (d + 1) 208 0 [(0, .ref v0)] [] M (f_Planner_count O f v0 M) := by
  unfold f_Planner_count
  refine xZ.adv (me := xm208) hP_208 2 (pc' := 2) (lv' := [(0, .ref v0)]) (st' := [.ref v0, .int (0 : Int32)]) rfl ?_
  refine xZ.eqs (lv2 := [(0, .ref v0)]) (st2 := [.ref v0, .int (yw 0)]) rfl (by simp only [yl_lit, yL_lit, yw_add, yw_sub, yw_mul, yw_neg, yl_add, yl_sub, yl_mul, cj_and, cj_or, cj_xor, cj_shl, cj_shr, cj_ushr, cj_div, cj_i2c, cj_i2b, cj_dc, ck_and, ck_or, ck_xor, ck_shl, ck_shr, ck_ushr, ck_i2l, ck_l2i, ck_cmp]) ?_
  refine xZ.k_gJ (me := xm208) hP_208 rfl (fun x1 => ?_)
  refine xZ.adv (me := xm208) hP_208 1 (pc' := 6) (lv' := [(0, .ref v0)]) (st' := [.int (5 : Int32), .int (yw x1), .int (yw 0)]) rfl ?_
  refine xZ.eqs (lv2 := [(0, .ref v0)]) (st2 := [.int (yw 5), .int (yw x1), .int (yw 0)]) rfl (by simp only [yl_lit, yL_lit, yw_add, yw_sub, yw_mul, yw_neg, yl_add, yl_sub, yl_mul, cj_and, cj_or, cj_xor, cj_shl, cj_shr, cj_ushr, cj_div, cj_i2c, cj_i2b, cj_dc, ck_and, ck_or, ck_xor, ck_shl, ck_shr, ck_ushr, ck_i2l, ck_l2i, ck_cmp]) ?_
  refine xZ.calls (κ := oJ) (av := [.int (yw x1), .int (yw 5)]) (rest := [.int (yw 0)]) (st' := fun x2 => [.int (yw x2), .int (yw 0)]) (me := xm208) hP_208 rfl rfl rfl (Nat.le_of_ble_eq_true rfl) (by decide) hP_248 (Nat.le_of_ble_eq_true rfl) (fun _ => rfl) (k_f_Math_min O f (d + 0) x1 5 M) (fun x2 M1 => ?_)
  refine xZ.calls (κ := oJ) (av := [.int (yw 0), .int (yw x2)]) (rest := []) (st' := fun x3 => [.int (yw x3)]) (me := xm208) hP_208 rfl rfl rfl (Nat.le_of_ble_eq_true rfl) (by decide) hP_247 (Nat.le_of_ble_eq_true rfl) (fun _ => rfl) (k_f_Math_max O f (d + 0) 0 x2 M1) (fun x3 M2 => ?_)
  exact xZ.jreti (me := xm208) hP_208 rfl rfl
def f_Planner_isHindered_67 (O : Nat → Option va_E) (f : Nat) (K13 : Nat → Int → Int → xM → Option (Int × xM)) (v0 : Nat) (v1 : Int) (v2 : Int) (s0 : Int) (M : xM) : Option (Int × xM) :=
  if yw s0 = yw 0 then (
    K13 v0 v1 (v2 + 1) M
  ) else
  (gR O M v0 7 4).bind fun x1 =>
  (aJ O M x1 v2).bind fun x2 =>
  (gR O M v0 7 4).bind fun x3 =>
  (aJ O M x3 v1).bind fun x4 =>
  if yw (jand x2 x4) = yw 0 then (
    K13 v0 v1 (v2 + 1) M
  ) else
  some (1, M)
set_option maxRecDepth 20000 in
theorem k_f_Planner_isHindered_67 (O : Nat → Option va_E) (f d : Nat) (K13 : Nat → Int → Int → xM → Option (Int × xM)) (hK13 : ∀ (v0 : Nat) (v1 : Int) (v2 : Int) M, xZ oJ O (d + 0) 209 13 [(0, .ref v0), (1, .int (yw v1)), (2, .int (yw v2))] [] M (K13 v0 v1 v2 M)) (v0 : Nat) (v1 : Int) (v2 : Int) (s0 : Int) (M : xM) : xZ oJ O (d + 0) 209 67 [(0, .ref v0), (1, .int (yw v1)), (2, .int (yw v2))] [.int (yw s0)] M (f_Planner_isHindered_67 O f K13 v0 v1 v2 s0 M) := by
  unfold f_Planner_isHindered_67
  refine xZ.adv (me := xm209) hP_209 2 (pc' := 69) (lv' := [(3, .int (yw s0)), (0, .ref v0), (1, .int (yw v1)), (2, .int (yw v2))]) (st' := [.int (yw s0)]) rfl ?_
  refine xZ.jf_eq (me := xm209) hP_209 rfl (fun h1 => ?_) (fun h1 => ?_)
  · skip
    refine xZ.adv (me := xm209) hP_209 2 (pc' := 13) (lv' := [(2, .int ((yw v2) + (1 : Int32))), (3, .int (yw s0)), (0, .ref v0), (1, .int (yw v1))]) (st' := []) rfl ?_
    refine xZ.eqs (lv2 := [(2, .int (yw (v2 + 1))), (3, .int (yw s0)), (0, .ref v0), (1, .int (yw v1))]) (st2 := []) (by simp only [yl_lit, yL_lit, yw_add, yw_sub, yw_mul, yw_neg, yl_add, yl_sub, yl_mul, cj_and, cj_or, cj_xor, cj_shl, cj_shr, cj_ushr, cj_div, cj_i2c, cj_i2b, cj_dc, ck_and, ck_or, ck_xor, ck_shl, ck_shr, ck_ushr, ck_i2l, ck_l2i, ck_cmp]) rfl ?_
    exact xZ.sub (xsc (.tail _ (.tail _ (.head _))) (xsc (.tail _ (.tail _ (.tail _ (.head _)))) (xsc (.head _) xsn))) (show ([2, 3, 0, 1] : List Nat).Nodup from by decide) (hK13 v0 v1 (v2 + 1) M)
  · skip
    refine xZ.adv (me := xm209) hP_209 1 (pc' := 73) (lv' := [(3, .int (yw s0)), (0, .ref v0), (1, .int (yw v1)), (2, .int (yw v2))]) (st' := [.ref v0]) rfl ?_
    refine xZ.k_gR (me := xm209) hP_209 rfl (fun x1 => ?_)
    refine xZ.adv (me := xm209) hP_209 1 (pc' := 77) (lv' := [(3, .int (yw s0)), (0, .ref v0), (1, .int (yw v1)), (2, .int (yw v2))]) (st' := [.int (yw v2), .ref x1]) rfl ?_
    refine xZ.k_aJ (me := xm209) hP_209 rfl (fun x2 => ?_)
    refine xZ.adv (me := xm209) hP_209 1 (pc' := 79) (lv' := [(3, .int (yw s0)), (0, .ref v0), (1, .int (yw v1)), (2, .int (yw v2))]) (st' := [.ref v0, .int (yw x2)]) rfl ?_
    refine xZ.k_gR (me := xm209) hP_209 rfl (fun x3 => ?_)
    refine xZ.adv (me := xm209) hP_209 1 (pc' := 83) (lv' := [(3, .int (yw s0)), (0, .ref v0), (1, .int (yw v1)), (2, .int (yw v2))]) (st' := [.int (yw v1), .ref x3, .int (yw x2)]) rfl ?_
    refine xZ.k_aJ (me := xm209) hP_209 rfl (fun x4 => ?_)
    refine xZ.adv (me := xm209) hP_209 1 (pc' := 85) (lv' := [(3, .int (yw s0)), (0, .ref v0), (1, .int (yw v1)), (2, .int (yw v2))]) (st' := [.int ((yw x2) &&& (yw x4))]) rfl ?_
    refine xZ.eqs (lv2 := [(3, .int (yw s0)), (0, .ref v0), (1, .int (yw v1)), (2, .int (yw v2))]) (st2 := [.int (yw (jand x2 x4))]) rfl (by simp only [yl_lit, yL_lit, yw_add, yw_sub, yw_mul, yw_neg, yl_add, yl_sub, yl_mul, cj_and, cj_or, cj_xor, cj_shl, cj_shr, cj_ushr, cj_div, cj_i2c, cj_i2b, cj_dc, ck_and, ck_or, ck_xor, ck_shl, ck_shr, ck_ushr, ck_i2l, ck_l2i, ck_cmp]) ?_
    refine xZ.jf_eq (me := xm209) hP_209 rfl (fun h2 => ?_) (fun h2 => ?_)
    · skip
      refine xZ.adv (me := xm209) hP_209 2 (pc' := 13) (lv' := [(2, .int ((yw v2) + (1 : Int32))), (3, .int (yw s0)), (0, .ref v0), (1, .int (yw v1))]) (st' := []) rfl ?_
      refine xZ.eqs (lv2 := [(2, .int (yw (v2 + 1))), (3, .int (yw s0)), (0, .ref v0), (1, .int (yw v1))]) (st2 := []) (by simp only [yl_lit, yL_lit, yw_add, yw_sub, yw_mul, yw_neg, yl_add, yl_sub, yl_mul, cj_and, cj_or, cj_xor, cj_shl, cj_shr, cj_ushr, cj_div, cj_i2c, cj_i2b, cj_dc, ck_and, ck_or, ck_xor, ck_shl, ck_shr, ck_ushr, ck_i2l, ck_l2i, ck_cmp]) rfl ?_
      exact xZ.sub (xsc (.tail _ (.tail _ (.head _))) (xsc (.tail _ (.tail _ (.tail _ (.head _)))) (xsc (.head _) xsn))) (show ([2, 3, 0, 1] : List Nat).Nodup from by decide) (hK13 v0 v1 (v2 + 1) M)
    · skip
      refine xZ.adv (me := xm209) hP_209 1 (pc' := 89) (lv' := [(3, .int (yw s0)), (0, .ref v0), (1, .int (yw v1)), (2, .int (yw v2))]) (st' := [.int (1 : Int32)]) rfl ?_
      refine xZ.eqs (lv2 := [(3, .int (yw s0)), (0, .ref v0), (1, .int (yw v1)), (2, .int (yw v2))]) (st2 := [.int (yw 1)]) rfl (by simp only [yl_lit, yL_lit, yw_add, yw_sub, yw_mul, yw_neg, yl_add, yl_sub, yl_mul, cj_and, cj_or, cj_xor, cj_shl, cj_shr, cj_ushr, cj_div, cj_i2c, cj_i2b, cj_dc, ck_and, ck_or, ck_xor, ck_shl, ck_shr, ck_ushr, ck_i2l, ck_l2i, ck_cmp]) ?_
      exact xZ.jrete (me := xm209) hP_209 rfl rfl rfl
def f_Planner_isHindered_66 (O : Nat → Option va_E) (f : Nat) (K13 : Nat → Int → Int → xM → Option (Int × xM)) (v0 : Nat) (v1 : Int) (v2 : Int) (M : xM) : Option (Int × xM) :=
  f_Planner_isHindered_67 O f K13 v0 v1 v2 0 M
set_option maxRecDepth 20000 in
theorem k_f_Planner_isHindered_66 (O : Nat → Option va_E) (f d : Nat) (K13 : Nat → Int → Int → xM → Option (Int × xM)) (hK13 : ∀ (v0 : Nat) (v1 : Int) (v2 : Int) M, xZ oJ O (d + 0) 209 13 [(0, .ref v0), (1, .int (yw v1)), (2, .int (yw v2))] [] M (K13 v0 v1 v2 M)) (v0 : Nat) (v1 : Int) (v2 : Int) (M : xM) : xZ oJ O (d + 0) 209 66 [(0, .ref v0), (1, .int (yw v1)), (2, .int (yw v2))] [] M (f_Planner_isHindered_66 O f K13 v0 v1 v2 M) := by
  unfold f_Planner_isHindered_66
  refine xZ.adv (me := xm209) hP_209 1 (pc' := 67) (lv' := [(0, .ref v0), (1, .int (yw v1)), (2, .int (yw v2))]) (st' := [.int (0 : Int32)]) rfl ?_
  refine xZ.eqs (lv2 := [(0, .ref v0), (1, .int (yw v1)), (2, .int (yw v2))]) (st2 := [.int (yw 0)]) rfl (by simp only [yl_lit, yL_lit, yw_add, yw_sub, yw_mul, yw_neg, yl_add, yl_sub, yl_mul, cj_and, cj_or, cj_xor, cj_shl, cj_shr, cj_ushr, cj_div, cj_i2c, cj_i2b, cj_dc, ck_and, ck_or, ck_xor, ck_shl, ck_shr, ck_ushr, ck_i2l, ck_l2i, ck_cmp]) ?_
  exact (k_f_Planner_isHindered_67 O f d K13 hK13 v0 v1 v2 0 M)
def f_Planner_isHindered_13 (O : Nat → Option va_E) (f : Nat) : Nat → Nat → Int → Int → xM → Option (Int × xM)
  | 0, _, _, _, _ => none
  | n + 1, v0, v1, v2, M =>
    if yw v1 ≤ yw v2 then (
      some (0, M)
    ) else
    (gR O M v0 7 6).bind fun x1 =>
    (aJ O M x1 v2).bind fun x2 =>
    (gR O M v0 7 6).bind fun x3 =>
    (aJ O M x3 v1).bind fun x4 =>
    (gR O M v0 7 3).bind fun x5 =>
    (aJ O M x5 v1).bind fun x6 =>
    if yw (x4 + x6) ≤ yw x2 then (
      f_Planner_isHindered_66 O f (f_Planner_isHindered_13 O f n) v0 v1 v2 M
    ) else
    (gR O M v0 7 6).bind fun x7 =>
    (aJ O M x7 v1).bind fun x8 =>
    (gR O M v0 7 6).bind fun x9 =>
    (aJ O M x9 v2).bind fun x10 =>
    (gR O M v0 7 3).bind fun x11 =>
    (aJ O M x11 v2).bind fun x12 =>
    if yw (x10 + x12) ≤ yw x8 then (
      f_Planner_isHindered_66 O f (f_Planner_isHindered_13 O f n) v0 v1 v2 M
    ) else
    f_Planner_isHindered_67 O f (f_Planner_isHindered_13 O f n) v0 v1 v2 1 M
set_option maxRecDepth 20000 in
theorem k_f_Planner_isHindered_13 (O : Nat → Option va_E) (f d : Nat) : ∀ (n : Nat) (v0 : Nat) (v1 : Int) (v2 : Int) (M : xM), xZ oJ O (d + 0) 209 13 [(0, .ref v0), (1, .int (yw v1)), (2, .int (yw v2))] [] M (f_Planner_isHindered_13 O f n v0 v1 v2 M) := by
  intro n
  induction n with
  | zero =>
    intro v0 v1 v2 M
    exact xZ.no
  | succ n ih =>
    intro v0 v1 v2 M
    unfold f_Planner_isHindered_13
    refine xZ.adv (me := xm209) hP_209 2 (pc' := 15) (lv' := [(0, .ref v0), (1, .int (yw v1)), (2, .int (yw v2))]) (st' := [.int (yw v1), .int (yw v2)]) rfl ?_
    refine xZ.jc_ge (me := xm209) hP_209 rfl (fun h1 => ?_) (fun h1 => ?_)
    · skip
      refine xZ.adv (me := xm209) hP_209 1 (pc' := 97) (lv' := [(0, .ref v0), (1, .int (yw v1)), (2, .int (yw v2))]) (st' := [.int (0 : Int32)]) rfl ?_
      refine xZ.eqs (lv2 := [(0, .ref v0), (1, .int (yw v1)), (2, .int (yw v2))]) (st2 := [.int (yw 0)]) rfl (by simp only [yl_lit, yL_lit, yw_add, yw_sub, yw_mul, yw_neg, yl_add, yl_sub, yl_mul, cj_and, cj_or, cj_xor, cj_shl, cj_shr, cj_ushr, cj_div, cj_i2c, cj_i2b, cj_dc, ck_and, ck_or, ck_xor, ck_shl, ck_shr, ck_ushr, ck_i2l, ck_l2i, ck_cmp]) ?_
      exact xZ.jrete (me := xm209) hP_209 rfl rfl rfl
    · skip
      refine xZ.adv (me := xm209) hP_209 1 (pc' := 19) (lv' := [(0, .ref v0), (1, .int (yw v1)), (2, .int (yw v2))]) (st' := [.ref v0]) rfl ?_
      refine xZ.k_gR (me := xm209) hP_209 rfl (fun x1 => ?_)
      refine xZ.adv (me := xm209) hP_209 1 (pc' := 23) (lv' := [(0, .ref v0), (1, .int (yw v1)), (2, .int (yw v2))]) (st' := [.int (yw v2), .ref x1]) rfl ?_
      refine xZ.k_aJ (me := xm209) hP_209 rfl (fun x2 => ?_)
      refine xZ.adv (me := xm209) hP_209 1 (pc' := 25) (lv' := [(0, .ref v0), (1, .int (yw v1)), (2, .int (yw v2))]) (st' := [.ref v0, .int (yw x2)]) rfl ?_
      refine xZ.k_gR (me := xm209) hP_209 rfl (fun x3 => ?_)
      refine xZ.adv (me := xm209) hP_209 1 (pc' := 29) (lv' := [(0, .ref v0), (1, .int (yw v1)), (2, .int (yw v2))]) (st' := [.int (yw v1), .ref x3, .int (yw x2)]) rfl ?_
      refine xZ.k_aJ (me := xm209) hP_209 rfl (fun x4 => ?_)
      refine xZ.adv (me := xm209) hP_209 1 (pc' := 31) (lv' := [(0, .ref v0), (1, .int (yw v1)), (2, .int (yw v2))]) (st' := [.ref v0, .int (yw x4), .int (yw x2)]) rfl ?_
      refine xZ.k_gR (me := xm209) hP_209 rfl (fun x5 => ?_)
      refine xZ.adv (me := xm209) hP_209 1 (pc' := 35) (lv' := [(0, .ref v0), (1, .int (yw v1)), (2, .int (yw v2))]) (st' := [.int (yw v1), .ref x5, .int (yw x4), .int (yw x2)]) rfl ?_
      refine xZ.k_aJ (me := xm209) hP_209 rfl (fun x6 => ?_)
      refine xZ.adv (me := xm209) hP_209 1 (pc' := 37) (lv' := [(0, .ref v0), (1, .int (yw v1)), (2, .int (yw v2))]) (st' := [.int ((yw x4) + (yw x6)), .int (yw x2)]) rfl ?_
      refine xZ.eqs (lv2 := [(0, .ref v0), (1, .int (yw v1)), (2, .int (yw v2))]) (st2 := [.int (yw (x4 + x6)), .int (yw x2)]) rfl (by simp only [yl_lit, yL_lit, yw_add, yw_sub, yw_mul, yw_neg, yl_add, yl_sub, yl_mul, cj_and, cj_or, cj_xor, cj_shl, cj_shr, cj_ushr, cj_div, cj_i2c, cj_i2b, cj_dc, ck_and, ck_or, ck_xor, ck_shl, ck_shr, ck_ushr, ck_i2l, ck_l2i, ck_cmp]) ?_
      refine xZ.jc_ge (me := xm209) hP_209 rfl (fun h2 => ?_) (fun h2 => ?_)
      · skip
        exact (k_f_Planner_isHindered_66 O f d (f_Planner_isHindered_13 O f n) ih v0 v1 v2 M)
      · skip
        refine xZ.adv (me := xm209) hP_209 1 (pc' := 41) (lv' := [(0, .ref v0), (1, .int (yw v1)), (2, .int (yw v2))]) (st' := [.ref v0]) rfl ?_
        refine xZ.k_gR (me := xm209) hP_209 rfl (fun x7 => ?_)
        refine xZ.adv (me := xm209) hP_209 1 (pc' := 45) (lv' := [(0, .ref v0), (1, .int (yw v1)), (2, .int (yw v2))]) (st' := [.int (yw v1), .ref x7]) rfl ?_
        refine xZ.k_aJ (me := xm209) hP_209 rfl (fun x8 => ?_)
        refine xZ.adv (me := xm209) hP_209 1 (pc' := 47) (lv' := [(0, .ref v0), (1, .int (yw v1)), (2, .int (yw v2))]) (st' := [.ref v0, .int (yw x8)]) rfl ?_
        refine xZ.k_gR (me := xm209) hP_209 rfl (fun x9 => ?_)
        refine xZ.adv (me := xm209) hP_209 1 (pc' := 51) (lv' := [(0, .ref v0), (1, .int (yw v1)), (2, .int (yw v2))]) (st' := [.int (yw v2), .ref x9, .int (yw x8)]) rfl ?_
        refine xZ.k_aJ (me := xm209) hP_209 rfl (fun x10 => ?_)
        refine xZ.adv (me := xm209) hP_209 1 (pc' := 53) (lv' := [(0, .ref v0), (1, .int (yw v1)), (2, .int (yw v2))]) (st' := [.ref v0, .int (yw x10), .int (yw x8)]) rfl ?_
        refine xZ.k_gR (me := xm209) hP_209 rfl (fun x11 => ?_)
        refine xZ.adv (me := xm209) hP_209 1 (pc' := 57) (lv' := [(0, .ref v0), (1, .int (yw v1)), (2, .int (yw v2))]) (st' := [.int (yw v2), .ref x11, .int (yw x10), .int (yw x8)]) rfl ?_
        refine xZ.k_aJ (me := xm209) hP_209 rfl (fun x12 => ?_)
        refine xZ.adv (me := xm209) hP_209 1 (pc' := 59) (lv' := [(0, .ref v0), (1, .int (yw v1)), (2, .int (yw v2))]) (st' := [.int ((yw x10) + (yw x12)), .int (yw x8)]) rfl ?_
        refine xZ.eqs (lv2 := [(0, .ref v0), (1, .int (yw v1)), (2, .int (yw v2))]) (st2 := [.int (yw (x10 + x12)), .int (yw x8)]) rfl (by simp only [yl_lit, yL_lit, yw_add, yw_sub, yw_mul, yw_neg, yl_add, yl_sub, yl_mul, cj_and, cj_or, cj_xor, cj_shl, cj_shr, cj_ushr, cj_div, cj_i2c, cj_i2b, cj_dc, ck_and, ck_or, ck_xor, ck_shl, ck_shr, ck_ushr, ck_i2l, ck_l2i, ck_cmp]) ?_
        refine xZ.jc_ge (me := xm209) hP_209 rfl (fun h3 => ?_) (fun h3 => ?_)
        · skip
          exact (k_f_Planner_isHindered_66 O f d (f_Planner_isHindered_13 O f n) ih v0 v1 v2 M)
        · skip
          refine xZ.adv (me := xm209) hP_209 2 (pc' := 67) (lv' := [(0, .ref v0), (1, .int (yw v1)), (2, .int (yw v2))]) (st' := [.int (1 : Int32)]) rfl ?_
          refine xZ.eqs (lv2 := [(0, .ref v0), (1, .int (yw v1)), (2, .int (yw v2))]) (st2 := [.int (yw 1)]) rfl (by simp only [yl_lit, yL_lit, yw_add, yw_sub, yw_mul, yw_neg, yl_add, yl_sub, yl_mul, cj_and, cj_or, cj_xor, cj_shl, cj_shr, cj_ushr, cj_div, cj_i2c, cj_i2b, cj_dc, ck_and, ck_or, ck_xor, ck_shl, ck_shr, ck_ushr, ck_i2l, ck_l2i, ck_cmp]) ?_
          exact (k_f_Planner_isHindered_67 O f d (f_Planner_isHindered_13 O f n) ih v0 v1 v2 1 M)
def f_Planner_isHindered (O : Nat → Option va_E) (f : Nat) (v0 : Nat) (v1 : Int) (M : xM) : Option (Int × xM) :=
  if yw v1 < yw 0 then (
    some (1, M)
  ) else
  if yw v1 < yw 5 then (
    f_Planner_isHindered_13 O f f v0 v1 0 M
  ) else
  some (1, M)
set_option maxRecDepth 20000 in
theorem k_f_Planner_isHindered (O : Nat → Option va_E) (f d : Nat) (v0 : Nat) (v1 : Int) (M : xM) : xZ oJ O (d + 0) 209 0 [(0, .ref v0), (1, .int (yw v1))] [] M (f_Planner_isHindered O f v0 v1 M) := by
  unfold f_Planner_isHindered
  refine xZ.adv (me := xm209) hP_209 1 (pc' := 1) (lv' := [(0, .ref v0), (1, .int (yw v1))]) (st' := [.int (yw v1)]) rfl ?_
  refine xZ.jf_lt (me := xm209) hP_209 rfl (fun h1 => ?_) (fun h1 => ?_)
  · skip
    refine xZ.adv (me := xm209) hP_209 1 (pc' := 10) (lv' := [(0, .ref v0), (1, .int (yw v1))]) (st' := [.int (1 : Int32)]) rfl ?_
    refine xZ.eqs (lv2 := [(0, .ref v0), (1, .int (yw v1))]) (st2 := [.int (yw 1)]) rfl (by simp only [yl_lit, yL_lit, yw_add, yw_sub, yw_mul, yw_neg, yl_add, yl_sub, yl_mul, cj_and, cj_or, cj_xor, cj_shl, cj_shr, cj_ushr, cj_div, cj_i2c, cj_i2b, cj_dc, ck_and, ck_or, ck_xor, ck_shl, ck_shr, ck_ushr, ck_i2l, ck_l2i, ck_cmp]) ?_
    exact xZ.jrete (me := xm209) hP_209 rfl rfl rfl
  · skip
    refine xZ.adv (me := xm209) hP_209 2 (pc' := 6) (lv' := [(0, .ref v0), (1, .int (yw v1))]) (st' := [.int (5 : Int32), .int (yw v1)]) rfl ?_
    refine xZ.eqs (lv2 := [(0, .ref v0), (1, .int (yw v1))]) (st2 := [.int (yw 5), .int (yw v1)]) rfl (by simp only [yl_lit, yL_lit, yw_add, yw_sub, yw_mul, yw_neg, yl_add, yl_sub, yl_mul, cj_and, cj_or, cj_xor, cj_shl, cj_shr, cj_ushr, cj_div, cj_i2c, cj_i2b, cj_dc, ck_and, ck_or, ck_xor, ck_shl, ck_shr, ck_ushr, ck_i2l, ck_l2i, ck_cmp]) ?_
    refine xZ.jc_lt (me := xm209) hP_209 rfl (fun h2 => ?_) (fun h2 => ?_)
    · skip
      refine xZ.adv (me := xm209) hP_209 2 (pc' := 13) (lv' := [(2, .int (0 : Int32)), (0, .ref v0), (1, .int (yw v1))]) (st' := []) rfl ?_
      refine xZ.eqs (lv2 := [(2, .int (yw 0)), (0, .ref v0), (1, .int (yw v1))]) (st2 := []) (by simp only [yl_lit, yL_lit, yw_add, yw_sub, yw_mul, yw_neg, yl_add, yl_sub, yl_mul, cj_and, cj_or, cj_xor, cj_shl, cj_shr, cj_ushr, cj_div, cj_i2c, cj_i2b, cj_dc, ck_and, ck_or, ck_xor, ck_shl, ck_shr, ck_ushr, ck_i2l, ck_l2i, ck_cmp]) rfl ?_
      exact xZ.sub (xsc (.tail _ (.head _)) (xsc (.tail _ (.tail _ (.head _))) (xsc (.head _) xsn))) (show ([2, 0, 1] : List Nat).Nodup from by decide) (k_f_Planner_isHindered_13 O f d f v0 v1 0 M)
    · skip
      refine xZ.adv (me := xm209) hP_209 1 (pc' := 10) (lv' := [(0, .ref v0), (1, .int (yw v1))]) (st' := [.int (1 : Int32)]) rfl ?_
      refine xZ.eqs (lv2 := [(0, .ref v0), (1, .int (yw v1))]) (st2 := [.int (yw 1)]) rfl (by simp only [yl_lit, yL_lit, yw_add, yw_sub, yw_mul, yw_neg, yl_add, yl_sub, yl_mul, cj_and, cj_or, cj_xor, cj_shl, cj_shr, cj_ushr, cj_div, cj_i2c, cj_i2b, cj_dc, ck_and, ck_or, ck_xor, ck_shl, ck_shr, ck_ushr, ck_i2l, ck_l2i, ck_cmp]) ?_
      exact xZ.jrete (me := xm209) hP_209 rfl rfl rfl
def f_Planner_isEarlier_2 (O : Nat → Option va_E) (f : Nat) : Nat → Nat → Int → xM → Option (Int × xM)
  | 0, _, _, _ => none
  | n + 1, v0, v1, M =>
    (gJ O M v0 7 1).bind fun x1 =>
    if yw x1 ≤ yw v1 then (
      some (0, M)
    ) else
    if yw 5 ≤ yw v1 then (
      some (0, M)
    ) else
    (gR O M v0 7 6).bind fun x2 =>
    (aJ O M x2 v1).bind fun x3 =>
    (gR O M v0 7 5).bind fun x4 =>
    (aJ O M x4 v1).bind fun x5 =>
    if yw x3 = yw x5 then (
      f_Planner_isEarlier_2 O f n v0 (v1 + 1) M
    ) else
    (gR O M v0 7 6).bind fun x6 =>
    (aJ O M x6 v1).bind fun x7 =>
    (gR O M v0 7 5).bind fun x8 =>
    (aJ O M x8 v1).bind fun x9 =>
    if yw x9 ≤ yw x7 then (
      some (0, M)
    ) else
    some (1, M)
set_option maxRecDepth 20000 in
theorem k_f_Planner_isEarlier_2 (O : Nat → Option va_E) (f d : Nat) : ∀ (n : Nat) (v0 : Nat) (v1 : Int) (M : xM), xZ oJ O (d + 0) 211 2 [(0, .ref v0), (1, .int (yw v1))] [] M (f_Planner_isEarlier_2 O f n v0 v1 M) := by
  intro n
  induction n with
  | zero =>
    intro v0 v1 M
    exact xZ.no
  | succ n ih =>
    intro v0 v1 M
    unfold f_Planner_isEarlier_2
    refine xZ.adv (me := xm211) hP_211 2 (pc' := 4) (lv' := [(0, .ref v0), (1, .int (yw v1))]) (st' := [.ref v0, .int (yw v1)]) rfl ?_
    refine xZ.k_gJ (me := xm211) hP_211 rfl (fun x1 => ?_)
    refine xZ.jc_ge (me := xm211) hP_211 rfl (fun h1 => ?_) (fun h1 => ?_)
    · skip
      refine xZ.adv (me := xm211) hP_211 1 (pc' := 58) (lv' := [(0, .ref v0), (1, .int (yw v1))]) (st' := [.int (0 : Int32)]) rfl ?_
      refine xZ.eqs (lv2 := [(0, .ref v0), (1, .int (yw v1))]) (st2 := [.int (yw 0)]) rfl (by simp only [yl_lit, yL_lit, yw_add, yw_sub, yw_mul, yw_neg, yl_add, yl_sub, yl_mul, cj_and, cj_or, cj_xor, cj_shl, cj_shr, cj_ushr, cj_div, cj_i2c, cj_i2b, cj_dc, ck_and, ck_or, ck_xor, ck_shl, ck_shr, ck_ushr, ck_i2l, ck_l2i, ck_cmp]) ?_
      exact xZ.jrete (me := xm211) hP_211 rfl rfl rfl
    · skip
      refine xZ.adv (me := xm211) hP_211 2 (pc' := 12) (lv' := [(0, .ref v0), (1, .int (yw v1))]) (st' := [.int (5 : Int32), .int (yw v1)]) rfl ?_
      refine xZ.eqs (lv2 := [(0, .ref v0), (1, .int (yw v1))]) (st2 := [.int (yw 5), .int (yw v1)]) rfl (by simp only [yl_lit, yL_lit, yw_add, yw_sub, yw_mul, yw_neg, yl_add, yl_sub, yl_mul, cj_and, cj_or, cj_xor, cj_shl, cj_shr, cj_ushr, cj_div, cj_i2c, cj_i2b, cj_dc, ck_and, ck_or, ck_xor, ck_shl, ck_shr, ck_ushr, ck_i2l, ck_l2i, ck_cmp]) ?_
      refine xZ.jc_ge (me := xm211) hP_211 rfl (fun h2 => ?_) (fun h2 => ?_)
      · skip
        refine xZ.adv (me := xm211) hP_211 1 (pc' := 58) (lv' := [(0, .ref v0), (1, .int (yw v1))]) (st' := [.int (0 : Int32)]) rfl ?_
        refine xZ.eqs (lv2 := [(0, .ref v0), (1, .int (yw v1))]) (st2 := [.int (yw 0)]) rfl (by simp only [yl_lit, yL_lit, yw_add, yw_sub, yw_mul, yw_neg, yl_add, yl_sub, yl_mul, cj_and, cj_or, cj_xor, cj_shl, cj_shr, cj_ushr, cj_div, cj_i2c, cj_i2b, cj_dc, ck_and, ck_or, ck_xor, ck_shl, ck_shr, ck_ushr, ck_i2l, ck_l2i, ck_cmp]) ?_
        exact xZ.jrete (me := xm211) hP_211 rfl rfl rfl
      · skip
        refine xZ.adv (me := xm211) hP_211 1 (pc' := 16) (lv' := [(0, .ref v0), (1, .int (yw v1))]) (st' := [.ref v0]) rfl ?_
        refine xZ.k_gR (me := xm211) hP_211 rfl (fun x2 => ?_)
        refine xZ.adv (me := xm211) hP_211 1 (pc' := 20) (lv' := [(0, .ref v0), (1, .int (yw v1))]) (st' := [.int (yw v1), .ref x2]) rfl ?_
        refine xZ.k_aJ (me := xm211) hP_211 rfl (fun x3 => ?_)
        refine xZ.adv (me := xm211) hP_211 1 (pc' := 22) (lv' := [(0, .ref v0), (1, .int (yw v1))]) (st' := [.ref v0, .int (yw x3)]) rfl ?_
        refine xZ.k_gR (me := xm211) hP_211 rfl (fun x4 => ?_)
        refine xZ.adv (me := xm211) hP_211 1 (pc' := 26) (lv' := [(0, .ref v0), (1, .int (yw v1))]) (st' := [.int (yw v1), .ref x4, .int (yw x3)]) rfl ?_
        refine xZ.k_aJ (me := xm211) hP_211 rfl (fun x5 => ?_)
        refine xZ.jc_eq (me := xm211) hP_211 rfl (fun h3 => ?_) (fun h3 => ?_)
        · skip
          refine xZ.adv (me := xm211) hP_211 2 (pc' := 2) (lv' := [(1, .int ((yw v1) + (1 : Int32))), (0, .ref v0)]) (st' := []) rfl ?_
          refine xZ.eqs (lv2 := [(1, .int (yw (v1 + 1))), (0, .ref v0)]) (st2 := []) (by simp only [yl_lit, yL_lit, yw_add, yw_sub, yw_mul, yw_neg, yl_add, yl_sub, yl_mul, cj_and, cj_or, cj_xor, cj_shl, cj_shr, cj_ushr, cj_div, cj_i2c, cj_i2b, cj_dc, ck_and, ck_or, ck_xor, ck_shl, ck_shr, ck_ushr, ck_i2l, ck_l2i, ck_cmp]) rfl ?_
          exact xZ.sub (xsc (.tail _ (.head _)) (xsc (.head _) xsn)) (show ([1, 0] : List Nat).Nodup from by decide) (ih v0 (v1 + 1) M)
        · skip
          refine xZ.adv (me := xm211) hP_211 1 (pc' := 31) (lv' := [(0, .ref v0), (1, .int (yw v1))]) (st' := [.ref v0]) rfl ?_
          refine xZ.k_gR (me := xm211) hP_211 rfl (fun x6 => ?_)
          refine xZ.adv (me := xm211) hP_211 1 (pc' := 35) (lv' := [(0, .ref v0), (1, .int (yw v1))]) (st' := [.int (yw v1), .ref x6]) rfl ?_
          refine xZ.k_aJ (me := xm211) hP_211 rfl (fun x7 => ?_)
          refine xZ.adv (me := xm211) hP_211 1 (pc' := 37) (lv' := [(0, .ref v0), (1, .int (yw v1))]) (st' := [.ref v0, .int (yw x7)]) rfl ?_
          refine xZ.k_gR (me := xm211) hP_211 rfl (fun x8 => ?_)
          refine xZ.adv (me := xm211) hP_211 1 (pc' := 41) (lv' := [(0, .ref v0), (1, .int (yw v1))]) (st' := [.int (yw v1), .ref x8, .int (yw x7)]) rfl ?_
          refine xZ.k_aJ (me := xm211) hP_211 rfl (fun x9 => ?_)
          refine xZ.jc_ge (me := xm211) hP_211 rfl (fun h4 => ?_) (fun h4 => ?_)
          · skip
            refine xZ.adv (me := xm211) hP_211 1 (pc' := 50) (lv' := [(0, .ref v0), (1, .int (yw v1))]) (st' := [.int (0 : Int32)]) rfl ?_
            refine xZ.eqs (lv2 := [(0, .ref v0), (1, .int (yw v1))]) (st2 := [.int (yw 0)]) rfl (by simp only [yl_lit, yL_lit, yw_add, yw_sub, yw_mul, yw_neg, yl_add, yl_sub, yl_mul, cj_and, cj_or, cj_xor, cj_shl, cj_shr, cj_ushr, cj_div, cj_i2c, cj_i2b, cj_dc, ck_and, ck_or, ck_xor, ck_shl, ck_shr, ck_ushr, ck_i2l, ck_l2i, ck_cmp]) ?_
            exact xZ.jrete (me := xm211) hP_211 rfl rfl rfl
          · skip
            refine xZ.adv (me := xm211) hP_211 2 (pc' := 50) (lv' := [(0, .ref v0), (1, .int (yw v1))]) (st' := [.int (1 : Int32)]) rfl ?_
            refine xZ.eqs (lv2 := [(0, .ref v0), (1, .int (yw v1))]) (st2 := [.int (yw 1)]) rfl (by simp only [yl_lit, yL_lit, yw_add, yw_sub, yw_mul, yw_neg, yl_add, yl_sub, yl_mul, cj_and, cj_or, cj_xor, cj_shl, cj_shr, cj_ushr, cj_div, cj_i2c, cj_i2b, cj_dc, ck_and, ck_or, ck_xor, ck_shl, ck_shr, ck_ushr, ck_i2l, ck_l2i, ck_cmp]) ?_
            exact xZ.jrete (me := xm211) hP_211 rfl rfl rfl
def f_Planner_isEarlier (O : Nat → Option va_E) (f : Nat) (v0 : Nat) (M : xM) : Option (Int × xM) :=
  f_Planner_isEarlier_2 O f f v0 0 M
set_option maxRecDepth 20000 in
theorem k_f_Planner_isEarlier (O : Nat → Option va_E) (f d : Nat) (v0 : Nat) (M : xM) : xZ oJ O (d + 0) 211 0 [(0, .ref v0)] [] M (f_Planner_isEarlier O f v0 M) := by
  unfold f_Planner_isEarlier
  refine xZ.adv (me := xm211) hP_211 2 (pc' := 2) (lv' := [(1, .int (0 : Int32)), (0, .ref v0)]) (st' := []) rfl ?_
  refine xZ.eqs (lv2 := [(1, .int (yw 0)), (0, .ref v0)]) (st2 := []) (by simp only [yl_lit, yL_lit, yw_add, yw_sub, yw_mul, yw_neg, yl_add, yl_sub, yl_mul, cj_and, cj_or, cj_xor, cj_shl, cj_shr, cj_ushr, cj_div, cj_i2c, cj_i2b, cj_dc, ck_and, ck_or, ck_xor, ck_shl, ck_shr, ck_ushr, ck_i2l, ck_l2i, ck_cmp]) rfl ?_
  exact xZ.sub (xsc (.tail _ (.head _)) (xsc (.head _) xsn)) (show ([1, 0] : List Nat).Nodup from by decide) (k_f_Planner_isEarlier_2 O f d f v0 0 M)
def f_Planner_keepTried_24 (O : Nat → Option va_E) (f : Nat) (v0 : Nat) (v1 : Int) (M : xM) : Option (Unit × xM) :=
  (pJ M v0 7 8 v1).bind fun M1 =>
  (gR O M1 v0 7 6).bind fun x1 =>
  (gR O M1 v0 7 5).bind fun x2 =>
  (cpJ O M1 x1 0 x2 0 5).bind fun M2 =>
  some ((), M2)
set_option maxRecDepth 20000 in
theorem k_f_Planner_keepTried_24 (O : Nat → Option va_E) (f d : Nat) (v0 : Nat) (v1 : Int) (M : xM) : xZ oU O (d + 1) 210 24 [(0, .ref v0), (1, .int (yw v1))] [] M (f_Planner_keepTried_24 O f v0 v1 M) := by
  unfold f_Planner_keepTried_24
  refine xZ.adv (me := xm210) hP_210 2 (pc' := 26) (lv' := [(0, .ref v0), (1, .int (yw v1))]) (st' := [.int (yw v1), .ref v0]) rfl ?_
  refine xZ.k_pJ (me := xm210) hP_210 rfl (fun M1 => ?_)
  refine xZ.adv (me := xm210) hP_210 1 (pc' := 30) (lv' := [(0, .ref v0), (1, .int (yw v1))]) (st' := [.ref v0]) rfl ?_
  refine xZ.k_gR (me := xm210) hP_210 rfl (fun x1 => ?_)
  refine xZ.adv (me := xm210) hP_210 2 (pc' := 35) (lv' := [(0, .ref v0), (1, .int (yw v1))]) (st' := [.ref v0, .int (0 : Int32), .ref x1]) rfl ?_
  refine xZ.eqs (lv2 := [(0, .ref v0), (1, .int (yw v1))]) (st2 := [.ref v0, .int (yw 0), .ref x1]) rfl (by simp only [yl_lit, yL_lit, yw_add, yw_sub, yw_mul, yw_neg, yl_add, yl_sub, yl_mul, cj_and, cj_or, cj_xor, cj_shl, cj_shr, cj_ushr, cj_div, cj_i2c, cj_i2b, cj_dc, ck_and, ck_or, ck_xor, ck_shl, ck_shr, ck_ushr, ck_i2l, ck_l2i, ck_cmp]) ?_
  refine xZ.k_gR (me := xm210) hP_210 rfl (fun x2 => ?_)
  refine xZ.adv (me := xm210) hP_210 2 (pc' := 40) (lv' := [(0, .ref v0), (1, .int (yw v1))]) (st' := [.int (5 : Int32), .int (0 : Int32), .ref x2, .int (yw 0), .ref x1]) rfl ?_
  refine xZ.eqs (lv2 := [(0, .ref v0), (1, .int (yw v1))]) (st2 := [.int (yw 5), .int (yw 0), .ref x2, .int (yw 0), .ref x1]) rfl (by simp only [yl_lit, yL_lit, yw_add, yw_sub, yw_mul, yw_neg, yl_add, yl_sub, yl_mul, cj_and, cj_or, cj_xor, cj_shl, cj_shr, cj_ushr, cj_div, cj_i2c, cj_i2b, cj_dc, ck_and, ck_or, ck_xor, ck_shl, ck_shr, ck_ushr, ck_i2l, ck_l2i, ck_cmp]) ?_
  refine xZ.k_cpJ (me := xm210) hP_210 rfl (Nat.le_of_ble_eq_true rfl) (fun M2 => ?_)
  exact xZ.retu (me := xm210) hP_210 rfl rfl
def f_Planner_keepTried (O : Nat → Option va_E) (f : Nat) (v0 : Nat) (v1 : Int) (M : xM) : Option (Unit × xM) :=
  (gJ O M v0 7 8).bind fun x1 =>
  if yw x1 = yw (-1) then (
    f_Planner_keepTried_24 O f v0 v1 M
  ) else
  (gJ O M v0 7 8).bind fun x2 =>
  if yw v1 = yw x2 then (
    (isO O M v0 7).bind fun _ =>
    xcl (f_Planner_isEarlier O f v0 M) fun x3 M1 =>
    if yw x3 = yw 0 then (
      some ((), M1)
    ) else
    f_Planner_keepTried_24 O f v0 v1 M1
  ) else
  f_Planner_keepTried_24 O f v0 v1 M
set_option maxRecDepth 20000 in
theorem k_f_Planner_keepTried (O : Nat → Option va_E) (f d : Nat) (v0 : Nat) (v1 : Int) (M : xM) : xZ oU O (d + 1) 210 0 [(0, .ref v0), (1, .int (yw v1))] [] M (f_Planner_keepTried O f v0 v1 M) := by
  unfold f_Planner_keepTried
  refine xZ.adv (me := xm210) hP_210 1 (pc' := 1) (lv' := [(0, .ref v0), (1, .int (yw v1))]) (st' := [.ref v0]) rfl ?_
  refine xZ.k_gJ (me := xm210) hP_210 rfl (fun x1 => ?_)
  refine xZ.adv (me := xm210) hP_210 1 (pc' := 5) (lv' := [(0, .ref v0), (1, .int (yw v1))]) (st' := [.int (-1 : Int32), .int (yw x1)]) rfl ?_
  refine xZ.eqs (lv2 := [(0, .ref v0), (1, .int (yw v1))]) (st2 := [.int (yw (-1)), .int (yw x1)]) rfl (by simp only [yl_lit, yL_lit, yw_add, yw_sub, yw_mul, yw_neg, yl_add, yl_sub, yl_mul, cj_and, cj_or, cj_xor, cj_shl, cj_shr, cj_ushr, cj_div, cj_i2c, cj_i2b, cj_dc, ck_and, ck_or, ck_xor, ck_shl, ck_shr, ck_ushr, ck_i2l, ck_l2i, ck_cmp]) ?_
  refine xZ.jc_eq (me := xm210) hP_210 rfl (fun h1 => ?_) (fun h1 => ?_)
  · skip
    exact (k_f_Planner_keepTried_24 O f d v0 v1 M)
  · skip
    refine xZ.adv (me := xm210) hP_210 2 (pc' := 10) (lv' := [(0, .ref v0), (1, .int (yw v1))]) (st' := [.ref v0, .int (yw v1)]) rfl ?_
    refine xZ.k_gJ (me := xm210) hP_210 rfl (fun x2 => ?_)
    refine xZ.jc_ne (me := xm210) hP_210 rfl (fun h2 => ?_) (fun h2 => ?_)
    · skip
      refine xZ.adv (me := xm210) hP_210 1 (pc' := 17) (lv' := [(0, .ref v0), (1, .int (yw v1))]) (st' := [.ref v0]) rfl ?_
      refine xZ.callv (κ := oJ) (av := []) (rest := []) (st' := fun x3 => [.int (yw x3)]) (k0 := v0) (me := xm210) hP_210 rfl (Or.inl rfl) ⟨rfl, by decide⟩ rfl rfl (Nat.le_of_ble_eq_true rfl) (by decide) hP_211 (Nat.le_of_ble_eq_true rfl) (fun _ => rfl) (k_f_Planner_isEarlier O f (d + 0) v0 M) (fun x3 M1 => ?_)
      refine xZ.jf_ne (me := xm210) hP_210 rfl (fun h3 => ?_) (fun h3 => ?_)
      · skip
        exact xZ.retu (me := xm210) hP_210 rfl rfl
      · skip
        exact (k_f_Planner_keepTried_24 O f d v0 v1 M1)
    · skip
      exact (k_f_Planner_keepTried_24 O f d v0 v1 M)
def f_Planner_search_124 (O : Nat → Option va_E) (f : Nat) (K43 : Nat → Int → Int → Int → Int → Int → xM → Option (Int × xM)) (v0 : Nat) (v1 : Int) (v2 : Int) (v3 : Int) (v4 : Int) (v5 : Int) (M : xM) : Option (Int × xM) :=
  if yw (v3 + (-1)) < yw 0 then (
    K43 v0 v1 v2 (v3 + (-1)) v4 (v5 + 1) M
  ) else
  (gR O M v0 7 6).bind fun x1 =>
  (aJ O M x1 (v3 + (-1))).bind fun x2 =>
  (gR O M v0 7 2).bind fun x3 =>
  (aK O M x3 (v3 + (-1))).bind fun x4 =>
  xcl (f_Dates_minuteOf O f x4 M) fun x5 M1 =>
  xcl (f_Math_abs O f (x2 - x5) M1) fun x6 M2 =>
  K43 v0 v1 v2 (v3 + (-1)) (v4 - x6) (v5 + 1) M2
set_option maxRecDepth 20000 in
theorem k_f_Planner_search_124 (O : Nat → Option va_E) (f d : Nat) (K43 : Nat → Int → Int → Int → Int → Int → xM → Option (Int × xM)) (hK43 : ∀ (v0 : Nat) (v1 : Int) (v2 : Int) (v3 : Int) (v4 : Int) (v5 : Int) M, xZ oJ O (d + 2) 207 43 [(0, .ref v0), (1, .int (yw v1)), (2, .int (yw v2)), (3, .int (yw v3)), (4, .int (yw v4)), (5, .int (yw v5))] [] M (K43 v0 v1 v2 v3 v4 v5 M)) (v0 : Nat) (v1 : Int) (v2 : Int) (v3 : Int) (v4 : Int) (v5 : Int) (M : xM) : xZ oJ O (d + 2) 207 124 [(0, .ref v0), (1, .int (yw v1)), (2, .int (yw v2)), (3, .int (yw v3)), (4, .int (yw v4)), (5, .int (yw v5))] [] M (f_Planner_search_124 O f K43 v0 v1 v2 v3 v4 v5 M) := by
  unfold f_Planner_search_124
  refine xZ.adv (me := xm207) hP_207 2 (pc' := 128) (lv' := [(3, .int ((yw v3) + (-1 : Int32))), (0, .ref v0), (1, .int (yw v1)), (2, .int (yw v2)), (4, .int (yw v4)), (5, .int (yw v5))]) (st' := [.int ((yw v3) + (-1 : Int32))]) rfl ?_
  refine xZ.eqs (lv2 := [(3, .int (yw (v3 + (-1)))), (0, .ref v0), (1, .int (yw v1)), (2, .int (yw v2)), (4, .int (yw v4)), (5, .int (yw v5))]) (st2 := [.int (yw (v3 + (-1)))]) (by simp only [yl_lit, yL_lit, yw_add, yw_sub, yw_mul, yw_neg, yl_add, yl_sub, yl_mul, cj_and, cj_or, cj_xor, cj_shl, cj_shr, cj_ushr, cj_div, cj_i2c, cj_i2b, cj_dc, ck_and, ck_or, ck_xor, ck_shl, ck_shr, ck_ushr, ck_i2l, ck_l2i, ck_cmp]) (by simp only [yl_lit, yL_lit, yw_add, yw_sub, yw_mul, yw_neg, yl_add, yl_sub, yl_mul, cj_and, cj_or, cj_xor, cj_shl, cj_shr, cj_ushr, cj_div, cj_i2c, cj_i2b, cj_dc, ck_and, ck_or, ck_xor, ck_shl, ck_shr, ck_ushr, ck_i2l, ck_l2i, ck_cmp]) ?_
  refine xZ.jf_lt (me := xm207) hP_207 rfl (fun h1 => ?_) (fun h1 => ?_)
  · skip
    refine xZ.adv (me := xm207) hP_207 2 (pc' := 43) (lv' := [(5, .int ((yw v5) + (1 : Int32))), (3, .int (yw (v3 + (-1)))), (0, .ref v0), (1, .int (yw v1)), (2, .int (yw v2)), (4, .int (yw v4))]) (st' := []) rfl ?_
    refine xZ.eqs (lv2 := [(5, .int (yw (v5 + 1))), (3, .int (yw (v3 + (-1)))), (0, .ref v0), (1, .int (yw v1)), (2, .int (yw v2)), (4, .int (yw v4))]) (st2 := []) (by simp only [yl_lit, yL_lit, yw_add, yw_sub, yw_mul, yw_neg, yl_add, yl_sub, yl_mul, cj_and, cj_or, cj_xor, cj_shl, cj_shr, cj_ushr, cj_div, cj_i2c, cj_i2b, cj_dc, ck_and, ck_or, ck_xor, ck_shl, ck_shr, ck_ushr, ck_i2l, ck_l2i, ck_cmp]) rfl ?_
    exact xZ.sub (xsc (.tail _ (.tail _ (.head _))) (xsc (.tail _ (.tail _ (.tail _ (.head _)))) (xsc (.tail _ (.tail _ (.tail _ (.tail _ (.head _))))) (xsc (.tail _ (.head _)) (xsc (.tail _ (.tail _ (.tail _ (.tail _ (.tail _ (.head _)))))) (xsc (.head _) xsn)))))) (show ([5, 3, 0, 1, 2, 4] : List Nat).Nodup from by decide) (hK43 v0 v1 v2 (v3 + (-1)) v4 (v5 + 1) M)
  · skip
    refine xZ.adv (me := xm207) hP_207 2 (pc' := 134) (lv' := [(3, .int (yw (v3 + (-1)))), (0, .ref v0), (1, .int (yw v1)), (2, .int (yw v2)), (4, .int (yw v4)), (5, .int (yw v5))]) (st' := [.ref v0, .int (yw v4)]) rfl ?_
    refine xZ.k_gR (me := xm207) hP_207 rfl (fun x1 => ?_)
    refine xZ.adv (me := xm207) hP_207 1 (pc' := 138) (lv' := [(3, .int (yw (v3 + (-1)))), (0, .ref v0), (1, .int (yw v1)), (2, .int (yw v2)), (4, .int (yw v4)), (5, .int (yw v5))]) (st' := [.int (yw (v3 + (-1))), .ref x1, .int (yw v4)]) rfl ?_
    refine xZ.k_aJ (me := xm207) hP_207 rfl (fun x2 => ?_)
    refine xZ.adv (me := xm207) hP_207 1 (pc' := 140) (lv' := [(3, .int (yw (v3 + (-1)))), (0, .ref v0), (1, .int (yw v1)), (2, .int (yw v2)), (4, .int (yw v4)), (5, .int (yw v5))]) (st' := [.ref v0, .int (yw x2), .int (yw v4)]) rfl ?_
    refine xZ.k_gR (me := xm207) hP_207 rfl (fun x3 => ?_)
    refine xZ.adv (me := xm207) hP_207 1 (pc' := 144) (lv' := [(3, .int (yw (v3 + (-1)))), (0, .ref v0), (1, .int (yw v1)), (2, .int (yw v2)), (4, .int (yw v4)), (5, .int (yw v5))]) (st' := [.int (yw (v3 + (-1))), .ref x3, .int (yw x2), .int (yw v4)]) rfl ?_
    refine xZ.k_aK (me := xm207) hP_207 rfl (fun x4 => ?_)
    refine xZ.calls (κ := oJ) (av := [.long (yl x4)]) (rest := [.int (yw x2), .int (yw v4)]) (st' := fun x5 => [.int (yw x5), .int (yw x2), .int (yw v4)]) (me := xm207) hP_207 rfl rfl rfl (Nat.le_of_ble_eq_true rfl) (by decide) hP_172 (Nat.le_of_ble_eq_true rfl) (fun _ => rfl) (k_f_Dates_minuteOf O f (d + 1) x4 M) (fun x5 M1 => ?_)
    refine xZ.adv (me := xm207) hP_207 1 (pc' := 149) (lv' := [(3, .int (yw (v3 + (-1)))), (0, .ref v0), (1, .int (yw v1)), (2, .int (yw v2)), (4, .int (yw v4)), (5, .int (yw v5))]) (st' := [.int ((yw x2) - (yw x5)), .int (yw v4)]) rfl ?_
    refine xZ.eqs (lv2 := [(3, .int (yw (v3 + (-1)))), (0, .ref v0), (1, .int (yw v1)), (2, .int (yw v2)), (4, .int (yw v4)), (5, .int (yw v5))]) (st2 := [.int (yw (x2 - x5)), .int (yw v4)]) rfl (by simp only [yl_lit, yL_lit, yw_add, yw_sub, yw_mul, yw_neg, yl_add, yl_sub, yl_mul, cj_and, cj_or, cj_xor, cj_shl, cj_shr, cj_ushr, cj_div, cj_i2c, cj_i2b, cj_dc, ck_and, ck_or, ck_xor, ck_shl, ck_shr, ck_ushr, ck_i2l, ck_l2i, ck_cmp]) ?_
    refine xZ.calls (κ := oJ) (av := [.int (yw (x2 - x5))]) (rest := [.int (yw v4)]) (st' := fun x6 => [.int (yw x6), .int (yw v4)]) (me := xm207) hP_207 rfl rfl rfl (Nat.le_of_ble_eq_true rfl) (by decide) hP_249 (Nat.le_of_ble_eq_true rfl) (fun _ => rfl) (k_f_Math_abs O f (d + 1) (x2 - x5) M1) (fun x6 M2 => ?_)
    refine xZ.adv (me := xm207) hP_207 5 (pc' := 43) (lv' := [(5, .int ((yw v5) + (1 : Int32))), (4, .int ((yw v4) - (yw x6))), (3, .int (yw (v3 + (-1)))), (0, .ref v0), (1, .int (yw v1)), (2, .int (yw v2))]) (st' := []) rfl ?_
    refine xZ.eqs (lv2 := [(5, .int (yw (v5 + 1))), (4, .int (yw (v4 - x6))), (3, .int (yw (v3 + (-1)))), (0, .ref v0), (1, .int (yw v1)), (2, .int (yw v2))]) (st2 := []) (by simp only [yl_lit, yL_lit, yw_add, yw_sub, yw_mul, yw_neg, yl_add, yl_sub, yl_mul, cj_and, cj_or, cj_xor, cj_shl, cj_shr, cj_ushr, cj_div, cj_i2c, cj_i2b, cj_dc, ck_and, ck_or, ck_xor, ck_shl, ck_shr, ck_ushr, ck_i2l, ck_l2i, ck_cmp]) rfl ?_
    exact xZ.sub (xsc (.tail _ (.tail _ (.tail _ (.head _)))) (xsc (.tail _ (.tail _ (.tail _ (.tail _ (.head _))))) (xsc (.tail _ (.tail _ (.tail _ (.tail _ (.tail _ (.head _)))))) (xsc (.tail _ (.tail _ (.head _))) (xsc (.tail _ (.head _)) (xsc (.head _) xsn)))))) (show ([5, 4, 3, 0, 1, 2] : List Nat).Nodup from by decide) (hK43 v0 v1 v2 (v3 + (-1)) (v4 - x6) (v5 + 1) M2)
def f_Planner_search_158 (O : Nat → Option va_E) (f : Nat) (K43 : Nat → Int → Int → Int → Int → Int → xM → Option (Int × xM)) (v0 : Nat) (v1 : Int) (v2 : Int) (v3 : Int) (v4 : Int) (v5 : Int) (v6 : Int) (v7 : Int) (M : xM) : Option (Int × xM) :=
  (gR O M v0 7 7).bind fun x1 =>
  (wJ M x1 v3 (v6 + 1)).bind fun M1 =>
  (gR O M1 v0 7 6).bind fun x2 =>
  (gR O M1 v0 7 2).bind fun x3 =>
  (aK O M1 x3 v3).bind fun x4 =>
  xcl (f_Dates_minuteOf O f x4 M1) fun x5 M2 =>
  (wJ M2 x2 v3 (x5 + v7)).bind fun M3 =>
  (gR O M3 v0 7 6).bind fun x6 =>
  (aJ O M3 x6 v3).bind fun x7 =>
  if yw x7 < yw v1 then (
    K43 v0 v1 v2 v3 v4 (v5 + 1) M3
  ) else
  (gR O M3 v0 7 6).bind fun x8 =>
  (aJ O M3 x8 v3).bind fun x9 =>
  if yw v2 ≤ yw x9 then (
    K43 v0 v1 v2 v3 v4 (v5 + 1) M3
  ) else
  (isO O M3 v0 7).bind fun _ =>
  xcl (f_Planner_isHindered O f v0 v3 M3) fun x10 M4 =>
  if yw x10 = yw 0 then (
    (isO O M4 v0 7).bind fun _ =>
    xcl (f_Planner_count O f v0 M4) fun x11 M5 =>
    if yw v3 = yw (x11 - 1) then (
      xcl (f_Math_abs O f v7 M5) fun x12 M6 =>
      (isO O M6 v0 7).bind fun _ =>
      xcl (f_Planner_keepTried O f v0 (v4 + x12) M6) fun _ M7 =>
      K43 v0 v1 v2 v3 v4 (v5 + 1) M7
    ) else
    if yw 5 ≤ yw (v3 + 1) then (
      K43 v0 v1 v2 v3 v4 (v5 + 1) M5
    ) else
    xcl (f_Math_abs O f v7 M5) fun x14 M8 =>
    (gR O M8 v0 7 7).bind fun x15 =>
    (wJ M8 x15 (v3 + 1) 0).bind fun M9 =>
    K43 v0 v1 v2 (v3 + 1) (v4 + x14) (v5 + 1) M9
  ) else
  K43 v0 v1 v2 v3 v4 (v5 + 1) M4
set_option maxRecDepth 20000 in
theorem k_f_Planner_search_158 (O : Nat → Option va_E) (f d : Nat) (K43 : Nat → Int → Int → Int → Int → Int → xM → Option (Int × xM)) (hK43 : ∀ (v0 : Nat) (v1 : Int) (v2 : Int) (v3 : Int) (v4 : Int) (v5 : Int) M, xZ oJ O (d + 2) 207 43 [(0, .ref v0), (1, .int (yw v1)), (2, .int (yw v2)), (3, .int (yw v3)), (4, .int (yw v4)), (5, .int (yw v5))] [] M (K43 v0 v1 v2 v3 v4 v5 M)) (v0 : Nat) (v1 : Int) (v2 : Int) (v3 : Int) (v4 : Int) (v5 : Int) (v6 : Int) (v7 : Int) (M : xM) : xZ oJ O (d + 2) 207 158 [(0, .ref v0), (1, .int (yw v1)), (2, .int (yw v2)), (3, .int (yw v3)), (4, .int (yw v4)), (5, .int (yw v5)), (6, .int (yw v6)), (7, .int (yw v7))] [] M (f_Planner_search_158 O f K43 v0 v1 v2 v3 v4 v5 v6 v7 M) := by
  unfold f_Planner_search_158
  refine xZ.adv (me := xm207) hP_207 1 (pc' := 159) (lv' := [(0, .ref v0), (1, .int (yw v1)), (2, .int (yw v2)), (3, .int (yw v3)), (4, .int (yw v4)), (5, .int (yw v5)), (6, .int (yw v6)), (7, .int (yw v7))]) (st' := [.ref v0]) rfl ?_
  refine xZ.k_gR (me := xm207) hP_207 rfl (fun x1 => ?_)
  refine xZ.adv (me := xm207) hP_207 4 (pc' := 167) (lv' := [(0, .ref v0), (1, .int (yw v1)), (2, .int (yw v2)), (3, .int (yw v3)), (4, .int (yw v4)), (5, .int (yw v5)), (6, .int (yw v6)), (7, .int (yw v7))]) (st' := [.int ((yw v6) + (1 : Int32)), .int (yw v3), .ref x1]) rfl ?_
  refine xZ.eqs (lv2 := [(0, .ref v0), (1, .int (yw v1)), (2, .int (yw v2)), (3, .int (yw v3)), (4, .int (yw v4)), (5, .int (yw v5)), (6, .int (yw v6)), (7, .int (yw v7))]) (st2 := [.int (yw (v6 + 1)), .int (yw v3), .ref x1]) rfl (by simp only [yl_lit, yL_lit, yw_add, yw_sub, yw_mul, yw_neg, yl_add, yl_sub, yl_mul, cj_and, cj_or, cj_xor, cj_shl, cj_shr, cj_ushr, cj_div, cj_i2c, cj_i2b, cj_dc, ck_and, ck_or, ck_xor, ck_shl, ck_shr, ck_ushr, ck_i2l, ck_l2i, ck_cmp]) ?_
  refine xZ.k_wJ (me := xm207) hP_207 rfl (fun M1 => ?_)
  refine xZ.adv (me := xm207) hP_207 1 (pc' := 169) (lv' := [(0, .ref v0), (1, .int (yw v1)), (2, .int (yw v2)), (3, .int (yw v3)), (4, .int (yw v4)), (5, .int (yw v5)), (6, .int (yw v6)), (7, .int (yw v7))]) (st' := [.ref v0]) rfl ?_
  refine xZ.k_gR (me := xm207) hP_207 rfl (fun x2 => ?_)
  refine xZ.adv (me := xm207) hP_207 2 (pc' := 174) (lv' := [(0, .ref v0), (1, .int (yw v1)), (2, .int (yw v2)), (3, .int (yw v3)), (4, .int (yw v4)), (5, .int (yw v5)), (6, .int (yw v6)), (7, .int (yw v7))]) (st' := [.ref v0, .int (yw v3), .ref x2]) rfl ?_
  refine xZ.k_gR (me := xm207) hP_207 rfl (fun x3 => ?_)
  refine xZ.adv (me := xm207) hP_207 1 (pc' := 178) (lv' := [(0, .ref v0), (1, .int (yw v1)), (2, .int (yw v2)), (3, .int (yw v3)), (4, .int (yw v4)), (5, .int (yw v5)), (6, .int (yw v6)), (7, .int (yw v7))]) (st' := [.int (yw v3), .ref x3, .int (yw v3), .ref x2]) rfl ?_
  refine xZ.k_aK (me := xm207) hP_207 rfl (fun x4 => ?_)
  refine xZ.calls (κ := oJ) (av := [.long (yl x4)]) (rest := [.int (yw v3), .ref x2]) (st' := fun x5 => [.int (yw x5), .int (yw v3), .ref x2]) (me := xm207) hP_207 rfl rfl rfl (Nat.le_of_ble_eq_true rfl) (by decide) hP_172 (Nat.le_of_ble_eq_true rfl) (fun _ => rfl) (k_f_Dates_minuteOf O f (d + 1) x4 M1) (fun x5 M2 => ?_)
  refine xZ.adv (me := xm207) hP_207 2 (pc' := 185) (lv' := [(0, .ref v0), (1, .int (yw v1)), (2, .int (yw v2)), (3, .int (yw v3)), (4, .int (yw v4)), (5, .int (yw v5)), (6, .int (yw v6)), (7, .int (yw v7))]) (st' := [.int ((yw x5) + (yw v7)), .int (yw v3), .ref x2]) rfl ?_
  refine xZ.eqs (lv2 := [(0, .ref v0), (1, .int (yw v1)), (2, .int (yw v2)), (3, .int (yw v3)), (4, .int (yw v4)), (5, .int (yw v5)), (6, .int (yw v6)), (7, .int (yw v7))]) (st2 := [.int (yw (x5 + v7)), .int (yw v3), .ref x2]) rfl (by simp only [yl_lit, yL_lit, yw_add, yw_sub, yw_mul, yw_neg, yl_add, yl_sub, yl_mul, cj_and, cj_or, cj_xor, cj_shl, cj_shr, cj_ushr, cj_div, cj_i2c, cj_i2b, cj_dc, ck_and, ck_or, ck_xor, ck_shl, ck_shr, ck_ushr, ck_i2l, ck_l2i, ck_cmp]) ?_
  refine xZ.k_wJ (me := xm207) hP_207 rfl (fun M3 => ?_)
  refine xZ.adv (me := xm207) hP_207 1 (pc' := 187) (lv' := [(0, .ref v0), (1, .int (yw v1)), (2, .int (yw v2)), (3, .int (yw v3)), (4, .int (yw v4)), (5, .int (yw v5)), (6, .int (yw v6)), (7, .int (yw v7))]) (st' := [.ref v0]) rfl ?_
  refine xZ.k_gR (me := xm207) hP_207 rfl (fun x6 => ?_)
  refine xZ.adv (me := xm207) hP_207 1 (pc' := 191) (lv' := [(0, .ref v0), (1, .int (yw v1)), (2, .int (yw v2)), (3, .int (yw v3)), (4, .int (yw v4)), (5, .int (yw v5)), (6, .int (yw v6)), (7, .int (yw v7))]) (st' := [.int (yw v3), .ref x6]) rfl ?_
  refine xZ.k_aJ (me := xm207) hP_207 rfl (fun x7 => ?_)
  refine xZ.adv (me := xm207) hP_207 1 (pc' := 193) (lv' := [(0, .ref v0), (1, .int (yw v1)), (2, .int (yw v2)), (3, .int (yw v3)), (4, .int (yw v4)), (5, .int (yw v5)), (6, .int (yw v6)), (7, .int (yw v7))]) (st' := [.int (yw v1), .int (yw x7)]) rfl ?_
  refine xZ.jc_lt (me := xm207) hP_207 rfl (fun h1 => ?_) (fun h1 => ?_)
  · skip
    refine xZ.adv (me := xm207) hP_207 2 (pc' := 43) (lv' := [(5, .int ((yw v5) + (1 : Int32))), (0, .ref v0), (1, .int (yw v1)), (2, .int (yw v2)), (3, .int (yw v3)), (4, .int (yw v4)), (6, .int (yw v6)), (7, .int (yw v7))]) (st' := []) rfl ?_
    refine xZ.eqs (lv2 := [(5, .int (yw (v5 + 1))), (0, .ref v0), (1, .int (yw v1)), (2, .int (yw v2)), (3, .int (yw v3)), (4, .int (yw v4)), (6, .int (yw v6)), (7, .int (yw v7))]) (st2 := []) (by simp only [yl_lit, yL_lit, yw_add, yw_sub, yw_mul, yw_neg, yl_add, yl_sub, yl_mul, cj_and, cj_or, cj_xor, cj_shl, cj_shr, cj_ushr, cj_div, cj_i2c, cj_i2b, cj_dc, ck_and, ck_or, ck_xor, ck_shl, ck_shr, ck_ushr, ck_i2l, ck_l2i, ck_cmp]) rfl ?_
    exact xZ.sub (xsc (.tail _ (.head _)) (xsc (.tail _ (.tail _ (.head _))) (xsc (.tail _ (.tail _ (.tail _ (.head _)))) (xsc (.tail _ (.tail _ (.tail _ (.tail _ (.head _))))) (xsc (.tail _ (.tail _ (.tail _ (.tail _ (.tail _ (.head _)))))) (xsc (.head _) xsn)))))) (show ([5, 0, 1, 2, 3, 4, 6, 7] : List Nat).Nodup from by decide) (hK43 v0 v1 v2 v3 v4 (v5 + 1) M3)
  · skip
    refine xZ.adv (me := xm207) hP_207 1 (pc' := 197) (lv' := [(0, .ref v0), (1, .int (yw v1)), (2, .int (yw v2)), (3, .int (yw v3)), (4, .int (yw v4)), (5, .int (yw v5)), (6, .int (yw v6)), (7, .int (yw v7))]) (st' := [.ref v0]) rfl ?_
    refine xZ.k_gR (me := xm207) hP_207 rfl (fun x8 => ?_)
    refine xZ.adv (me := xm207) hP_207 1 (pc' := 201) (lv' := [(0, .ref v0), (1, .int (yw v1)), (2, .int (yw v2)), (3, .int (yw v3)), (4, .int (yw v4)), (5, .int (yw v5)), (6, .int (yw v6)), (7, .int (yw v7))]) (st' := [.int (yw v3), .ref x8]) rfl ?_
    refine xZ.k_aJ (me := xm207) hP_207 rfl (fun x9 => ?_)
    refine xZ.adv (me := xm207) hP_207 1 (pc' := 203) (lv' := [(0, .ref v0), (1, .int (yw v1)), (2, .int (yw v2)), (3, .int (yw v3)), (4, .int (yw v4)), (5, .int (yw v5)), (6, .int (yw v6)), (7, .int (yw v7))]) (st' := [.int (yw v2), .int (yw x9)]) rfl ?_
    refine xZ.jc_ge (me := xm207) hP_207 rfl (fun h2 => ?_) (fun h2 => ?_)
    · skip
      refine xZ.adv (me := xm207) hP_207 2 (pc' := 43) (lv' := [(5, .int ((yw v5) + (1 : Int32))), (0, .ref v0), (1, .int (yw v1)), (2, .int (yw v2)), (3, .int (yw v3)), (4, .int (yw v4)), (6, .int (yw v6)), (7, .int (yw v7))]) (st' := []) rfl ?_
      refine xZ.eqs (lv2 := [(5, .int (yw (v5 + 1))), (0, .ref v0), (1, .int (yw v1)), (2, .int (yw v2)), (3, .int (yw v3)), (4, .int (yw v4)), (6, .int (yw v6)), (7, .int (yw v7))]) (st2 := []) (by simp only [yl_lit, yL_lit, yw_add, yw_sub, yw_mul, yw_neg, yl_add, yl_sub, yl_mul, cj_and, cj_or, cj_xor, cj_shl, cj_shr, cj_ushr, cj_div, cj_i2c, cj_i2b, cj_dc, ck_and, ck_or, ck_xor, ck_shl, ck_shr, ck_ushr, ck_i2l, ck_l2i, ck_cmp]) rfl ?_
      exact xZ.sub (xsc (.tail _ (.head _)) (xsc (.tail _ (.tail _ (.head _))) (xsc (.tail _ (.tail _ (.tail _ (.head _)))) (xsc (.tail _ (.tail _ (.tail _ (.tail _ (.head _))))) (xsc (.tail _ (.tail _ (.tail _ (.tail _ (.tail _ (.head _)))))) (xsc (.head _) xsn)))))) (show ([5, 0, 1, 2, 3, 4, 6, 7] : List Nat).Nodup from by decide) (hK43 v0 v1 v2 v3 v4 (v5 + 1) M3)
    · skip
      refine xZ.adv (me := xm207) hP_207 2 (pc' := 208) (lv' := [(0, .ref v0), (1, .int (yw v1)), (2, .int (yw v2)), (3, .int (yw v3)), (4, .int (yw v4)), (5, .int (yw v5)), (6, .int (yw v6)), (7, .int (yw v7))]) (st' := [.int (yw v3), .ref v0]) rfl ?_
      refine xZ.callv (κ := oJ) (av := [.int (yw v3)]) (rest := []) (st' := fun x10 => [.int (yw x10)]) (k0 := v0) (me := xm207) hP_207 rfl (Or.inl rfl) ⟨rfl, by decide⟩ rfl rfl (Nat.le_of_ble_eq_true rfl) (by decide) hP_209 (Nat.le_of_ble_eq_true rfl) (fun _ => rfl) (k_f_Planner_isHindered O f (d + 1) v0 v3 M3) (fun x10 M4 => ?_)
      refine xZ.jf_eq (me := xm207) hP_207 rfl (fun h3 => ?_) (fun h3 => ?_)
      · skip
        refine xZ.adv (me := xm207) hP_207 2 (pc' := 219) (lv' := [(0, .ref v0), (1, .int (yw v1)), (2, .int (yw v2)), (3, .int (yw v3)), (4, .int (yw v4)), (5, .int (yw v5)), (6, .int (yw v6)), (7, .int (yw v7))]) (st' := [.ref v0, .int (yw v3)]) rfl ?_
        refine xZ.callv (κ := oJ) (av := []) (rest := [.int (yw v3)]) (st' := fun x11 => [.int (yw x11), .int (yw v3)]) (k0 := v0) (me := xm207) hP_207 rfl (Or.inl rfl) ⟨rfl, by decide⟩ rfl rfl (Nat.le_of_ble_eq_true rfl) (by decide) hP_208 (Nat.le_of_ble_eq_true rfl) (fun _ => rfl) (k_f_Planner_count O f (d + 0) v0 M4) (fun x11 M5 => ?_)
        refine xZ.adv (me := xm207) hP_207 2 (pc' := 224) (lv' := [(0, .ref v0), (1, .int (yw v1)), (2, .int (yw v2)), (3, .int (yw v3)), (4, .int (yw v4)), (5, .int (yw v5)), (6, .int (yw v6)), (7, .int (yw v7))]) (st' := [.int ((yw x11) - (1 : Int32)), .int (yw v3)]) rfl ?_
        refine xZ.eqs (lv2 := [(0, .ref v0), (1, .int (yw v1)), (2, .int (yw v2)), (3, .int (yw v3)), (4, .int (yw v4)), (5, .int (yw v5)), (6, .int (yw v6)), (7, .int (yw v7))]) (st2 := [.int (yw (x11 - 1)), .int (yw v3)]) rfl (by simp only [yl_lit, yL_lit, yw_add, yw_sub, yw_mul, yw_neg, yl_add, yl_sub, yl_mul, cj_and, cj_or, cj_xor, cj_shl, cj_shr, cj_ushr, cj_div, cj_i2c, cj_i2b, cj_dc, ck_and, ck_or, ck_xor, ck_shl, ck_shr, ck_ushr, ck_i2l, ck_l2i, ck_cmp]) ?_
        refine xZ.jc_ne (me := xm207) hP_207 rfl (fun h4 => ?_) (fun h4 => ?_)
        · skip
          refine xZ.adv (me := xm207) hP_207 3 (pc' := 232) (lv' := [(0, .ref v0), (1, .int (yw v1)), (2, .int (yw v2)), (3, .int (yw v3)), (4, .int (yw v4)), (5, .int (yw v5)), (6, .int (yw v6)), (7, .int (yw v7))]) (st' := [.int (yw v7), .int (yw v4), .ref v0]) rfl ?_
          refine xZ.calls (κ := oJ) (av := [.int (yw v7)]) (rest := [.int (yw v4), .ref v0]) (st' := fun x12 => [.int (yw x12), .int (yw v4), .ref v0]) (me := xm207) hP_207 rfl rfl rfl (Nat.le_of_ble_eq_true rfl) (by decide) hP_249 (Nat.le_of_ble_eq_true rfl) (fun _ => rfl) (k_f_Math_abs O f (d + 1) v7 M5) (fun x12 M6 => ?_)
          refine xZ.adv (me := xm207) hP_207 1 (pc' := 236) (lv' := [(0, .ref v0), (1, .int (yw v1)), (2, .int (yw v2)), (3, .int (yw v3)), (4, .int (yw v4)), (5, .int (yw v5)), (6, .int (yw v6)), (7, .int (yw v7))]) (st' := [.int ((yw v4) + (yw x12)), .ref v0]) rfl ?_
          refine xZ.eqs (lv2 := [(0, .ref v0), (1, .int (yw v1)), (2, .int (yw v2)), (3, .int (yw v3)), (4, .int (yw v4)), (5, .int (yw v5)), (6, .int (yw v6)), (7, .int (yw v7))]) (st2 := [.int (yw (v4 + x12)), .ref v0]) rfl (by simp only [yl_lit, yL_lit, yw_add, yw_sub, yw_mul, yw_neg, yl_add, yl_sub, yl_mul, cj_and, cj_or, cj_xor, cj_shl, cj_shr, cj_ushr, cj_div, cj_i2c, cj_i2b, cj_dc, ck_and, ck_or, ck_xor, ck_shl, ck_shr, ck_ushr, ck_i2l, ck_l2i, ck_cmp]) ?_
          refine xZ.callv (κ := oU) (av := [.int (yw (v4 + x12))]) (rest := []) (st' := fun _ => []) (k0 := v0) (me := xm207) hP_207 rfl (Or.inl rfl) ⟨rfl, by decide⟩ rfl rfl (Nat.le_of_ble_eq_true rfl) (by decide) hP_210 (Nat.le_of_ble_eq_true rfl) (fun _ => rfl) (k_f_Planner_keepTried O f (d + 0) v0 (v4 + x12) M6) (fun _ M7 => ?_)
          refine xZ.adv (me := xm207) hP_207 3 (pc' := 43) (lv' := [(5, .int ((yw v5) + (1 : Int32))), (0, .ref v0), (1, .int (yw v1)), (2, .int (yw v2)), (3, .int (yw v3)), (4, .int (yw v4)), (6, .int (yw v6)), (7, .int (yw v7))]) (st' := []) rfl ?_
          refine xZ.eqs (lv2 := [(5, .int (yw (v5 + 1))), (0, .ref v0), (1, .int (yw v1)), (2, .int (yw v2)), (3, .int (yw v3)), (4, .int (yw v4)), (6, .int (yw v6)), (7, .int (yw v7))]) (st2 := []) (by simp only [yl_lit, yL_lit, yw_add, yw_sub, yw_mul, yw_neg, yl_add, yl_sub, yl_mul, cj_and, cj_or, cj_xor, cj_shl, cj_shr, cj_ushr, cj_div, cj_i2c, cj_i2b, cj_dc, ck_and, ck_or, ck_xor, ck_shl, ck_shr, ck_ushr, ck_i2l, ck_l2i, ck_cmp]) rfl ?_
          exact xZ.sub (xsc (.tail _ (.head _)) (xsc (.tail _ (.tail _ (.head _))) (xsc (.tail _ (.tail _ (.tail _ (.head _)))) (xsc (.tail _ (.tail _ (.tail _ (.tail _ (.head _))))) (xsc (.tail _ (.tail _ (.tail _ (.tail _ (.tail _ (.head _)))))) (xsc (.head _) xsn)))))) (show ([5, 0, 1, 2, 3, 4, 6, 7] : List Nat).Nodup from by decide) (hK43 v0 v1 v2 v3 v4 (v5 + 1) M7)
        · skip
          refine xZ.adv (me := xm207) hP_207 4 (pc' := 246) (lv' := [(0, .ref v0), (1, .int (yw v1)), (2, .int (yw v2)), (3, .int (yw v3)), (4, .int (yw v4)), (5, .int (yw v5)), (6, .int (yw v6)), (7, .int (yw v7))]) (st' := [.int (5 : Int32), .int ((yw v3) + (1 : Int32))]) rfl ?_
          refine xZ.eqs (lv2 := [(0, .ref v0), (1, .int (yw v1)), (2, .int (yw v2)), (3, .int (yw v3)), (4, .int (yw v4)), (5, .int (yw v5)), (6, .int (yw v6)), (7, .int (yw v7))]) (st2 := [.int (yw 5), .int (yw (v3 + 1))]) rfl (by simp only [yl_lit, yL_lit, yw_add, yw_sub, yw_mul, yw_neg, yl_add, yl_sub, yl_mul, cj_and, cj_or, cj_xor, cj_shl, cj_shr, cj_ushr, cj_div, cj_i2c, cj_i2b, cj_dc, ck_and, ck_or, ck_xor, ck_shl, ck_shr, ck_ushr, ck_i2l, ck_l2i, ck_cmp]) ?_
          refine xZ.jc_ge (me := xm207) hP_207 rfl (fun h5 => ?_) (fun h5 => ?_)
          · skip
            refine xZ.adv (me := xm207) hP_207 2 (pc' := 43) (lv' := [(5, .int ((yw v5) + (1 : Int32))), (0, .ref v0), (1, .int (yw v1)), (2, .int (yw v2)), (3, .int (yw v3)), (4, .int (yw v4)), (6, .int (yw v6)), (7, .int (yw v7))]) (st' := []) rfl ?_
            refine xZ.eqs (lv2 := [(5, .int (yw (v5 + 1))), (0, .ref v0), (1, .int (yw v1)), (2, .int (yw v2)), (3, .int (yw v3)), (4, .int (yw v4)), (6, .int (yw v6)), (7, .int (yw v7))]) (st2 := []) (by simp only [yl_lit, yL_lit, yw_add, yw_sub, yw_mul, yw_neg, yl_add, yl_sub, yl_mul, cj_and, cj_or, cj_xor, cj_shl, cj_shr, cj_ushr, cj_div, cj_i2c, cj_i2b, cj_dc, ck_and, ck_or, ck_xor, ck_shl, ck_shr, ck_ushr, ck_i2l, ck_l2i, ck_cmp]) rfl ?_
            exact xZ.sub (xsc (.tail _ (.head _)) (xsc (.tail _ (.tail _ (.head _))) (xsc (.tail _ (.tail _ (.tail _ (.head _)))) (xsc (.tail _ (.tail _ (.tail _ (.tail _ (.head _))))) (xsc (.tail _ (.tail _ (.tail _ (.tail _ (.tail _ (.head _)))))) (xsc (.head _) xsn)))))) (show ([5, 0, 1, 2, 3, 4, 6, 7] : List Nat).Nodup from by decide) (hK43 v0 v1 v2 v3 v4 (v5 + 1) M5)
          · skip
            refine xZ.adv (me := xm207) hP_207 2 (pc' := 253) (lv' := [(0, .ref v0), (1, .int (yw v1)), (2, .int (yw v2)), (3, .int (yw v3)), (4, .int (yw v4)), (5, .int (yw v5)), (6, .int (yw v6)), (7, .int (yw v7))]) (st' := [.int (yw v7), .int (yw v4)]) rfl ?_
            refine xZ.calls (κ := oJ) (av := [.int (yw v7)]) (rest := [.int (yw v4)]) (st' := fun x14 => [.int (yw x14), .int (yw v4)]) (me := xm207) hP_207 rfl rfl rfl (Nat.le_of_ble_eq_true rfl) (by decide) hP_249 (Nat.le_of_ble_eq_true rfl) (fun _ => rfl) (k_f_Math_abs O f (d + 1) v7 M5) (fun x14 M8 => ?_)
            refine xZ.adv (me := xm207) hP_207 4 (pc' := 263) (lv' := [(3, .int ((yw v3) + (1 : Int32))), (4, .int ((yw v4) + (yw x14))), (0, .ref v0), (1, .int (yw v1)), (2, .int (yw v2)), (5, .int (yw v5)), (6, .int (yw v6)), (7, .int (yw v7))]) (st' := [.ref v0]) rfl ?_
            refine xZ.eqs (lv2 := [(3, .int (yw (v3 + 1))), (4, .int (yw (v4 + x14))), (0, .ref v0), (1, .int (yw v1)), (2, .int (yw v2)), (5, .int (yw v5)), (6, .int (yw v6)), (7, .int (yw v7))]) (st2 := [.ref v0]) (by simp only [yl_lit, yL_lit, yw_add, yw_sub, yw_mul, yw_neg, yl_add, yl_sub, yl_mul, cj_and, cj_or, cj_xor, cj_shl, cj_shr, cj_ushr, cj_div, cj_i2c, cj_i2b, cj_dc, ck_and, ck_or, ck_xor, ck_shl, ck_shr, ck_ushr, ck_i2l, ck_l2i, ck_cmp]) rfl ?_
            refine xZ.k_gR (me := xm207) hP_207 rfl (fun x15 => ?_)
            refine xZ.adv (me := xm207) hP_207 2 (pc' := 268) (lv' := [(3, .int (yw (v3 + 1))), (4, .int (yw (v4 + x14))), (0, .ref v0), (1, .int (yw v1)), (2, .int (yw v2)), (5, .int (yw v5)), (6, .int (yw v6)), (7, .int (yw v7))]) (st' := [.int (0 : Int32), .int (yw (v3 + 1)), .ref x15]) rfl ?_
            refine xZ.eqs (lv2 := [(3, .int (yw (v3 + 1))), (4, .int (yw (v4 + x14))), (0, .ref v0), (1, .int (yw v1)), (2, .int (yw v2)), (5, .int (yw v5)), (6, .int (yw v6)), (7, .int (yw v7))]) (st2 := [.int (yw 0), .int (yw (v3 + 1)), .ref x15]) rfl (by simp only [yl_lit, yL_lit, yw_add, yw_sub, yw_mul, yw_neg, yl_add, yl_sub, yl_mul, cj_and, cj_or, cj_xor, cj_shl, cj_shr, cj_ushr, cj_div, cj_i2c, cj_i2b, cj_dc, ck_and, ck_or, ck_xor, ck_shl, ck_shr, ck_ushr, ck_i2l, ck_l2i, ck_cmp]) ?_
            refine xZ.k_wJ (me := xm207) hP_207 rfl (fun M9 => ?_)
            refine xZ.adv (me := xm207) hP_207 2 (pc' := 43) (lv' := [(5, .int ((yw v5) + (1 : Int32))), (3, .int (yw (v3 + 1))), (4, .int (yw (v4 + x14))), (0, .ref v0), (1, .int (yw v1)), (2, .int (yw v2)), (6, .int (yw v6)), (7, .int (yw v7))]) (st' := []) rfl ?_
            refine xZ.eqs (lv2 := [(5, .int (yw (v5 + 1))), (3, .int (yw (v3 + 1))), (4, .int (yw (v4 + x14))), (0, .ref v0), (1, .int (yw v1)), (2, .int (yw v2)), (6, .int (yw v6)), (7, .int (yw v7))]) (st2 := []) (by simp only [yl_lit, yL_lit, yw_add, yw_sub, yw_mul, yw_neg, yl_add, yl_sub, yl_mul, cj_and, cj_or, cj_xor, cj_shl, cj_shr, cj_ushr, cj_div, cj_i2c, cj_i2b, cj_dc, ck_and, ck_or, ck_xor, ck_shl, ck_shr, ck_ushr, ck_i2l, ck_l2i, ck_cmp]) rfl ?_
            exact xZ.sub (xsc (.tail _ (.tail _ (.tail _ (.head _)))) (xsc (.tail _ (.tail _ (.tail _ (.tail _ (.head _))))) (xsc (.tail _ (.tail _ (.tail _ (.tail _ (.tail _ (.head _)))))) (xsc (.tail _ (.head _)) (xsc (.tail _ (.tail _ (.head _))) (xsc (.head _) xsn)))))) (show ([5, 3, 4, 0, 1, 2, 6, 7] : List Nat).Nodup from by decide) (hK43 v0 v1 v2 (v3 + 1) (v4 + x14) (v5 + 1) M9)
      · skip
        refine xZ.adv (me := xm207) hP_207 3 (pc' := 43) (lv' := [(5, .int ((yw v5) + (1 : Int32))), (0, .ref v0), (1, .int (yw v1)), (2, .int (yw v2)), (3, .int (yw v3)), (4, .int (yw v4)), (6, .int (yw v6)), (7, .int (yw v7))]) (st' := []) rfl ?_
        refine xZ.eqs (lv2 := [(5, .int (yw (v5 + 1))), (0, .ref v0), (1, .int (yw v1)), (2, .int (yw v2)), (3, .int (yw v3)), (4, .int (yw v4)), (6, .int (yw v6)), (7, .int (yw v7))]) (st2 := []) (by simp only [yl_lit, yL_lit, yw_add, yw_sub, yw_mul, yw_neg, yl_add, yl_sub, yl_mul, cj_and, cj_or, cj_xor, cj_shl, cj_shr, cj_ushr, cj_div, cj_i2c, cj_i2b, cj_dc, ck_and, ck_or, ck_xor, ck_shl, ck_shr, ck_ushr, ck_i2l, ck_l2i, ck_cmp]) rfl ?_
        exact xZ.sub (xsc (.tail _ (.head _)) (xsc (.tail _ (.tail _ (.head _))) (xsc (.tail _ (.tail _ (.tail _ (.head _)))) (xsc (.tail _ (.tail _ (.tail _ (.tail _ (.head _))))) (xsc (.tail _ (.tail _ (.tail _ (.tail _ (.tail _ (.head _)))))) (xsc (.head _) xsn)))))) (show ([5, 0, 1, 2, 3, 4, 6, 7] : List Nat).Nodup from by decide) (hK43 v0 v1 v2 v3 v4 (v5 + 1) M4)
def f_Planner_search_92 (O : Nat → Option va_E) (f : Nat) (K43 : Nat → Int → Int → Int → Int → Int → xM → Option (Int × xM)) (v0 : Nat) (v1 : Int) (v2 : Int) (v3 : Int) (v4 : Int) (v5 : Int) (v6 : Int) (s0 : Int) (M : xM) : Option (Int × xM) :=
  if yw s0 = yw 1000000000 then (
    f_Planner_search_124 O f K43 v0 v1 v2 v3 v4 v5 M
  ) else
  (gJ O M v0 7 8).bind fun x1 =>
  if yw x1 = yw (-1) then (
    f_Planner_search_158 O f K43 v0 v1 v2 v3 v4 v5 v6 s0 M
  ) else
  xcl (f_Math_abs O f s0 M) fun x2 M1 =>
  (gJ O M1 v0 7 8).bind fun x3 =>
  if yw (v4 + x2) ≤ yw x3 then (
    f_Planner_search_158 O f K43 v0 v1 v2 v3 v4 v5 v6 s0 M1
  ) else
  f_Planner_search_124 O f K43 v0 v1 v2 v3 v4 v5 M1
set_option maxRecDepth 20000 in
theorem k_f_Planner_search_92 (O : Nat → Option va_E) (f d : Nat) (K43 : Nat → Int → Int → Int → Int → Int → xM → Option (Int × xM)) (hK43 : ∀ (v0 : Nat) (v1 : Int) (v2 : Int) (v3 : Int) (v4 : Int) (v5 : Int) M, xZ oJ O (d + 2) 207 43 [(0, .ref v0), (1, .int (yw v1)), (2, .int (yw v2)), (3, .int (yw v3)), (4, .int (yw v4)), (5, .int (yw v5))] [] M (K43 v0 v1 v2 v3 v4 v5 M)) (v0 : Nat) (v1 : Int) (v2 : Int) (v3 : Int) (v4 : Int) (v5 : Int) (v6 : Int) (s0 : Int) (M : xM) : xZ oJ O (d + 2) 207 92 [(0, .ref v0), (1, .int (yw v1)), (2, .int (yw v2)), (3, .int (yw v3)), (4, .int (yw v4)), (5, .int (yw v5)), (6, .int (yw v6))] [.int (yw s0)] M (f_Planner_search_92 O f K43 v0 v1 v2 v3 v4 v5 v6 s0 M) := by
  unfold f_Planner_search_92
  refine xZ.adv (me := xm207) hP_207 3 (pc' := 98) (lv' := [(7, .int (yw s0)), (0, .ref v0), (1, .int (yw v1)), (2, .int (yw v2)), (3, .int (yw v3)), (4, .int (yw v4)), (5, .int (yw v5)), (6, .int (yw v6))]) (st' := [.int (1000000000 : Int32), .int (yw s0)]) rfl ?_
  refine xZ.eqs (lv2 := [(7, .int (yw s0)), (0, .ref v0), (1, .int (yw v1)), (2, .int (yw v2)), (3, .int (yw v3)), (4, .int (yw v4)), (5, .int (yw v5)), (6, .int (yw v6))]) (st2 := [.int (yw 1000000000), .int (yw s0)]) rfl (by simp only [yl_lit, yL_lit, yw_add, yw_sub, yw_mul, yw_neg, yl_add, yl_sub, yl_mul, cj_and, cj_or, cj_xor, cj_shl, cj_shr, cj_ushr, cj_div, cj_i2c, cj_i2b, cj_dc, ck_and, ck_or, ck_xor, ck_shl, ck_shr, ck_ushr, ck_i2l, ck_l2i, ck_cmp]) ?_
  refine xZ.jc_eq (me := xm207) hP_207 rfl (fun h1 => ?_) (fun h1 => ?_)
  · skip
    exact xZ.sub (xsc (.tail _ (.head _)) (xsc (.tail _ (.tail _ (.head _))) (xsc (.tail _ (.tail _ (.tail _ (.head _)))) (xsc (.tail _ (.tail _ (.tail _ (.tail _ (.head _))))) (xsc (.tail _ (.tail _ (.tail _ (.tail _ (.tail _ (.head _)))))) (xsc (.tail _ (.tail _ (.tail _ (.tail _ (.tail _ (.tail _ (.head _))))))) xsn)))))) (show ([7, 0, 1, 2, 3, 4, 5, 6] : List Nat).Nodup from by decide) (k_f_Planner_search_124 O f d K43 hK43 v0 v1 v2 v3 v4 v5 M)
  · skip
    refine xZ.adv (me := xm207) hP_207 1 (pc' := 102) (lv' := [(7, .int (yw s0)), (0, .ref v0), (1, .int (yw v1)), (2, .int (yw v2)), (3, .int (yw v3)), (4, .int (yw v4)), (5, .int (yw v5)), (6, .int (yw v6))]) (st' := [.ref v0]) rfl ?_
    refine xZ.k_gJ (me := xm207) hP_207 rfl (fun x1 => ?_)
    refine xZ.adv (me := xm207) hP_207 1 (pc' := 106) (lv' := [(7, .int (yw s0)), (0, .ref v0), (1, .int (yw v1)), (2, .int (yw v2)), (3, .int (yw v3)), (4, .int (yw v4)), (5, .int (yw v5)), (6, .int (yw v6))]) (st' := [.int (-1 : Int32), .int (yw x1)]) rfl ?_
    refine xZ.eqs (lv2 := [(7, .int (yw s0)), (0, .ref v0), (1, .int (yw v1)), (2, .int (yw v2)), (3, .int (yw v3)), (4, .int (yw v4)), (5, .int (yw v5)), (6, .int (yw v6))]) (st2 := [.int (yw (-1)), .int (yw x1)]) rfl (by simp only [yl_lit, yL_lit, yw_add, yw_sub, yw_mul, yw_neg, yl_add, yl_sub, yl_mul, cj_and, cj_or, cj_xor, cj_shl, cj_shr, cj_ushr, cj_div, cj_i2c, cj_i2b, cj_dc, ck_and, ck_or, ck_xor, ck_shl, ck_shr, ck_ushr, ck_i2l, ck_l2i, ck_cmp]) ?_
    refine xZ.jc_eq (me := xm207) hP_207 rfl (fun h2 => ?_) (fun h2 => ?_)
    · skip
      exact xZ.sub (xsc (.tail _ (.head _)) (xsc (.tail _ (.tail _ (.head _))) (xsc (.tail _ (.tail _ (.tail _ (.head _)))) (xsc (.tail _ (.tail _ (.tail _ (.tail _ (.head _))))) (xsc (.tail _ (.tail _ (.tail _ (.tail _ (.tail _ (.head _)))))) (xsc (.tail _ (.tail _ (.tail _ (.tail _ (.tail _ (.tail _ (.head _))))))) (xsc (.tail _ (.tail _ (.tail _ (.tail _ (.tail _ (.tail _ (.tail _ (.head _)))))))) (xsc (.head _) xsn)))))))) (show ([7, 0, 1, 2, 3, 4, 5, 6] : List Nat).Nodup from by decide) (k_f_Planner_search_158 O f d K43 hK43 v0 v1 v2 v3 v4 v5 v6 s0 M)
    · skip
      refine xZ.adv (me := xm207) hP_207 2 (pc' := 113) (lv' := [(7, .int (yw s0)), (0, .ref v0), (1, .int (yw v1)), (2, .int (yw v2)), (3, .int (yw v3)), (4, .int (yw v4)), (5, .int (yw v5)), (6, .int (yw v6))]) (st' := [.int (yw s0), .int (yw v4)]) rfl ?_
      refine xZ.calls (κ := oJ) (av := [.int (yw s0)]) (rest := [.int (yw v4)]) (st' := fun x2 => [.int (yw x2), .int (yw v4)]) (me := xm207) hP_207 rfl rfl rfl (Nat.le_of_ble_eq_true rfl) (by decide) hP_249 (Nat.le_of_ble_eq_true rfl) (fun _ => rfl) (k_f_Math_abs O f (d + 1) s0 M) (fun x2 M1 => ?_)
      refine xZ.adv (me := xm207) hP_207 2 (pc' := 118) (lv' := [(7, .int (yw s0)), (0, .ref v0), (1, .int (yw v1)), (2, .int (yw v2)), (3, .int (yw v3)), (4, .int (yw v4)), (5, .int (yw v5)), (6, .int (yw v6))]) (st' := [.ref v0, .int ((yw v4) + (yw x2))]) rfl ?_
      refine xZ.eqs (lv2 := [(7, .int (yw s0)), (0, .ref v0), (1, .int (yw v1)), (2, .int (yw v2)), (3, .int (yw v3)), (4, .int (yw v4)), (5, .int (yw v5)), (6, .int (yw v6))]) (st2 := [.ref v0, .int (yw (v4 + x2))]) rfl (by simp only [yl_lit, yL_lit, yw_add, yw_sub, yw_mul, yw_neg, yl_add, yl_sub, yl_mul, cj_and, cj_or, cj_xor, cj_shl, cj_shr, cj_ushr, cj_div, cj_i2c, cj_i2b, cj_dc, ck_and, ck_or, ck_xor, ck_shl, ck_shr, ck_ushr, ck_i2l, ck_l2i, ck_cmp]) ?_
      refine xZ.k_gJ (me := xm207) hP_207 rfl (fun x3 => ?_)
      refine xZ.jc_le (me := xm207) hP_207 rfl (fun h3 => ?_) (fun h3 => ?_)
      · skip
        exact xZ.sub (xsc (.tail _ (.head _)) (xsc (.tail _ (.tail _ (.head _))) (xsc (.tail _ (.tail _ (.tail _ (.head _)))) (xsc (.tail _ (.tail _ (.tail _ (.tail _ (.head _))))) (xsc (.tail _ (.tail _ (.tail _ (.tail _ (.tail _ (.head _)))))) (xsc (.tail _ (.tail _ (.tail _ (.tail _ (.tail _ (.tail _ (.head _))))))) (xsc (.tail _ (.tail _ (.tail _ (.tail _ (.tail _ (.tail _ (.tail _ (.head _)))))))) (xsc (.head _) xsn)))))))) (show ([7, 0, 1, 2, 3, 4, 5, 6] : List Nat).Nodup from by decide) (k_f_Planner_search_158 O f d K43 hK43 v0 v1 v2 v3 v4 v5 v6 s0 M1)
      · skip
        exact xZ.sub (xsc (.tail _ (.head _)) (xsc (.tail _ (.tail _ (.head _))) (xsc (.tail _ (.tail _ (.tail _ (.head _)))) (xsc (.tail _ (.tail _ (.tail _ (.tail _ (.head _))))) (xsc (.tail _ (.tail _ (.tail _ (.tail _ (.tail _ (.head _)))))) (xsc (.tail _ (.tail _ (.tail _ (.tail _ (.tail _ (.tail _ (.head _))))))) xsn)))))) (show ([7, 0, 1, 2, 3, 4, 5, 6] : List Nat).Nodup from by decide) (k_f_Planner_search_124 O f d K43 hK43 v0 v1 v2 v3 v4 v5 M1)
def f_Planner_search_90 (O : Nat → Option va_E) (f : Nat) (K43 : Nat → Int → Int → Int → Int → Int → xM → Option (Int × xM)) (v0 : Nat) (v1 : Int) (v2 : Int) (v3 : Int) (v4 : Int) (v5 : Int) (v6 : Int) (M : xM) : Option (Int × xM) :=
  f_Planner_search_92 O f K43 v0 v1 v2 v3 v4 v5 v6 1000000000 M
set_option maxRecDepth 20000 in
theorem k_f_Planner_search_90 (O : Nat → Option va_E) (f d : Nat) (K43 : Nat → Int → Int → Int → Int → Int → xM → Option (Int × xM)) (hK43 : ∀ (v0 : Nat) (v1 : Int) (v2 : Int) (v3 : Int) (v4 : Int) (v5 : Int) M, xZ oJ O (d + 2) 207 43 [(0, .ref v0), (1, .int (yw v1)), (2, .int (yw v2)), (3, .int (yw v3)), (4, .int (yw v4)), (5, .int (yw v5))] [] M (K43 v0 v1 v2 v3 v4 v5 M)) (v0 : Nat) (v1 : Int) (v2 : Int) (v3 : Int) (v4 : Int) (v5 : Int) (v6 : Int) (M : xM) : xZ oJ O (d + 2) 207 90 [(0, .ref v0), (1, .int (yw v1)), (2, .int (yw v2)), (3, .int (yw v3)), (4, .int (yw v4)), (5, .int (yw v5)), (6, .int (yw v6))] [] M (f_Planner_search_90 O f K43 v0 v1 v2 v3 v4 v5 v6 M) := by
  unfold f_Planner_search_90
  refine xZ.adv (me := xm207) hP_207 1 (pc' := 92) (lv' := [(0, .ref v0), (1, .int (yw v1)), (2, .int (yw v2)), (3, .int (yw v3)), (4, .int (yw v4)), (5, .int (yw v5)), (6, .int (yw v6))]) (st' := [.int (1000000000 : Int32)]) rfl ?_
  refine xZ.eqs (lv2 := [(0, .ref v0), (1, .int (yw v1)), (2, .int (yw v2)), (3, .int (yw v3)), (4, .int (yw v4)), (5, .int (yw v5)), (6, .int (yw v6))]) (st2 := [.int (yw 1000000000)]) rfl (by simp only [yl_lit, yL_lit, yw_add, yw_sub, yw_mul, yw_neg, yl_add, yl_sub, yl_mul, cj_and, cj_or, cj_xor, cj_shl, cj_shr, cj_ushr, cj_div, cj_i2c, cj_i2b, cj_dc, ck_and, ck_or, ck_xor, ck_shl, ck_shr, ck_ushr, ck_i2l, ck_l2i, ck_cmp]) ?_
  exact (k_f_Planner_search_92 O f d K43 hK43 v0 v1 v2 v3 v4 v5 v6 1000000000 M)
def f_Planner_search_289 (O : Nat → Option va_E) (f : Nat) (v0 : Nat) (s0 : Nat) (s1 : Int) (M : xM) : Option (Int × xM) :=
  (pJ M s0 7 0 s1).bind fun M1 =>
  (gJ O M1 v0 7 8).bind fun x1 =>
  some (x1, M1)
set_option maxRecDepth 20000 in
theorem k_f_Planner_search_289 (O : Nat → Option va_E) (f d : Nat) (v0 : Nat) (s0 : Nat) (s1 : Int) (M : xM) : xZ oJ O (d + 2) 207 289 [(0, .ref v0)] [.int (yw s1), .ref s0] M (f_Planner_search_289 O f v0 s0 s1 M) := by
  unfold f_Planner_search_289
  refine xZ.k_pJ (me := xm207) hP_207 rfl (fun M1 => ?_)
  refine xZ.adv (me := xm207) hP_207 1 (pc' := 293) (lv' := [(0, .ref v0)]) (st' := [.ref v0]) rfl ?_
  refine xZ.k_gJ (me := xm207) hP_207 rfl (fun x1 => ?_)
  exact xZ.jreti (me := xm207) hP_207 rfl rfl
def f_Planner_search_275 (O : Nat → Option va_E) (f : Nat) (v0 : Nat) (M : xM) : Option (Int × xM) :=
  (gJ O M v0 7 8).bind fun x1 =>
  if yw x1 = yw (-1) then (
    f_Planner_search_289 O f v0 v0 0 M
  ) else
  f_Planner_search_289 O f v0 v0 1 M
set_option maxRecDepth 20000 in
theorem k_f_Planner_search_275 (O : Nat → Option va_E) (f d : Nat) (v0 : Nat) (M : xM) : xZ oJ O (d + 2) 207 275 [(0, .ref v0)] [] M (f_Planner_search_275 O f v0 M) := by
  unfold f_Planner_search_275
  refine xZ.adv (me := xm207) hP_207 2 (pc' := 277) (lv' := [(0, .ref v0)]) (st' := [.ref v0, .ref v0]) rfl ?_
  refine xZ.k_gJ (me := xm207) hP_207 rfl (fun x1 => ?_)
  refine xZ.adv (me := xm207) hP_207 1 (pc' := 281) (lv' := [(0, .ref v0)]) (st' := [.int (-1 : Int32), .int (yw x1), .ref v0]) rfl ?_
  refine xZ.eqs (lv2 := [(0, .ref v0)]) (st2 := [.int (yw (-1)), .int (yw x1), .ref v0]) rfl (by simp only [yl_lit, yL_lit, yw_add, yw_sub, yw_mul, yw_neg, yl_add, yl_sub, yl_mul, cj_and, cj_or, cj_xor, cj_shl, cj_shr, cj_ushr, cj_div, cj_i2c, cj_i2b, cj_dc, ck_and, ck_or, ck_xor, ck_shl, ck_shr, ck_ushr, ck_i2l, ck_l2i, ck_cmp]) ?_
  refine xZ.jc_eq (me := xm207) hP_207 rfl (fun h1 => ?_) (fun h1 => ?_)
  · skip
    refine xZ.adv (me := xm207) hP_207 1 (pc' := 289) (lv' := [(0, .ref v0)]) (st' := [.int (0 : Int32), .ref v0]) rfl ?_
    refine xZ.eqs (lv2 := [(0, .ref v0)]) (st2 := [.int (yw 0), .ref v0]) rfl (by simp only [yl_lit, yL_lit, yw_add, yw_sub, yw_mul, yw_neg, yl_add, yl_sub, yl_mul, cj_and, cj_or, cj_xor, cj_shl, cj_shr, cj_ushr, cj_div, cj_i2c, cj_i2b, cj_dc, ck_and, ck_or, ck_xor, ck_shl, ck_shr, ck_ushr, ck_i2l, ck_l2i, ck_cmp]) ?_
    exact (k_f_Planner_search_289 O f d v0 v0 0 M)
  · skip
    refine xZ.adv (me := xm207) hP_207 2 (pc' := 289) (lv' := [(0, .ref v0)]) (st' := [.int (1 : Int32), .ref v0]) rfl ?_
    refine xZ.eqs (lv2 := [(0, .ref v0)]) (st2 := [.int (yw 1), .ref v0]) rfl (by simp only [yl_lit, yL_lit, yw_add, yw_sub, yw_mul, yw_neg, yl_add, yl_sub, yl_mul, cj_and, cj_or, cj_xor, cj_shl, cj_shr, cj_ushr, cj_div, cj_i2c, cj_i2b, cj_dc, ck_and, ck_or, ck_xor, ck_shl, ck_shr, ck_ushr, ck_i2l, ck_l2i, ck_cmp]) ?_
    exact (k_f_Planner_search_289 O f d v0 v0 1 M)
def f_Planner_search_43 (O : Nat → Option va_E) (f : Nat) : Nat → Nat → Int → Int → Int → Int → Int → xM → Option (Int × xM)
  | 0, _, _, _, _, _, _, _ => none
  | n + 1, v0, v1, v2, v3, v4, v5, M =>
    if yw 200000 ≤ yw v5 then (
      f_Planner_search_275 O f v0 M
    ) else
    if yw v3 < yw 0 then (
      f_Planner_search_275 O f v0 M
    ) else
    if yw 5 ≤ yw v3 then (
      f_Planner_search_275 O f v0 M
    ) else
    (gR O M v0 7 7).bind fun x1 =>
    (aJ O M x1 v3).bind fun x2 =>
    if yw x2 < yw 0 then (
      f_Planner_search_90 O f (f_Planner_search_43 O f n) v0 v1 v2 v3 v4 v5 x2 M
    ) else
    (aJN O M 1000000001).bind fun x3 =>
    if yw x3 ≤ yw x2 then (
      f_Planner_search_90 O f (f_Planner_search_43 O f n) v0 v1 v2 v3 v4 v5 x2 M
    ) else
    (aJ O M 1000000001 x2).bind fun x4 =>
    f_Planner_search_92 O f (f_Planner_search_43 O f n) v0 v1 v2 v3 v4 v5 x2 x4 M
set_option maxRecDepth 20000 in
theorem k_f_Planner_search_43 (O : Nat → Option va_E) (f d : Nat) : ∀ (n : Nat) (v0 : Nat) (v1 : Int) (v2 : Int) (v3 : Int) (v4 : Int) (v5 : Int) (M : xM), xZ oJ O (d + 2) 207 43 [(0, .ref v0), (1, .int (yw v1)), (2, .int (yw v2)), (3, .int (yw v3)), (4, .int (yw v4)), (5, .int (yw v5))] [] M (f_Planner_search_43 O f n v0 v1 v2 v3 v4 v5 M) := by
  intro n
  induction n with
  | zero =>
    intro v0 v1 v2 v3 v4 v5 M
    exact xZ.no
  | succ n ih =>
    intro v0 v1 v2 v3 v4 v5 M
    unfold f_Planner_search_43
    refine xZ.adv (me := xm207) hP_207 2 (pc' := 47) (lv' := [(0, .ref v0), (1, .int (yw v1)), (2, .int (yw v2)), (3, .int (yw v3)), (4, .int (yw v4)), (5, .int (yw v5))]) (st' := [.int (200000 : Int32), .int (yw v5)]) rfl ?_
    refine xZ.eqs (lv2 := [(0, .ref v0), (1, .int (yw v1)), (2, .int (yw v2)), (3, .int (yw v3)), (4, .int (yw v4)), (5, .int (yw v5))]) (st2 := [.int (yw 200000), .int (yw v5)]) rfl (by simp only [yl_lit, yL_lit, yw_add, yw_sub, yw_mul, yw_neg, yl_add, yl_sub, yl_mul, cj_and, cj_or, cj_xor, cj_shl, cj_shr, cj_ushr, cj_div, cj_i2c, cj_i2b, cj_dc, ck_and, ck_or, ck_xor, ck_shl, ck_shr, ck_ushr, ck_i2l, ck_l2i, ck_cmp]) ?_
    refine xZ.jc_ge (me := xm207) hP_207 rfl (fun h1 => ?_) (fun h1 => ?_)
    · skip
      exact xZ.sub (xsc (.head _) xsn) (show ([0, 1, 2, 3, 4, 5] : List Nat).Nodup from by decide) (k_f_Planner_search_275 O f d v0 M)
    · skip
      refine xZ.adv (me := xm207) hP_207 1 (pc' := 51) (lv' := [(0, .ref v0), (1, .int (yw v1)), (2, .int (yw v2)), (3, .int (yw v3)), (4, .int (yw v4)), (5, .int (yw v5))]) (st' := [.int (yw v3)]) rfl ?_
      refine xZ.jf_lt (me := xm207) hP_207 rfl (fun h2 => ?_) (fun h2 => ?_)
      · skip
        exact xZ.sub (xsc (.head _) xsn) (show ([0, 1, 2, 3, 4, 5] : List Nat).Nodup from by decide) (k_f_Planner_search_275 O f d v0 M)
      · skip
        refine xZ.adv (me := xm207) hP_207 2 (pc' := 56) (lv' := [(0, .ref v0), (1, .int (yw v1)), (2, .int (yw v2)), (3, .int (yw v3)), (4, .int (yw v4)), (5, .int (yw v5))]) (st' := [.int (5 : Int32), .int (yw v3)]) rfl ?_
        refine xZ.eqs (lv2 := [(0, .ref v0), (1, .int (yw v1)), (2, .int (yw v2)), (3, .int (yw v3)), (4, .int (yw v4)), (5, .int (yw v5))]) (st2 := [.int (yw 5), .int (yw v3)]) rfl (by simp only [yl_lit, yL_lit, yw_add, yw_sub, yw_mul, yw_neg, yl_add, yl_sub, yl_mul, cj_and, cj_or, cj_xor, cj_shl, cj_shr, cj_ushr, cj_div, cj_i2c, cj_i2b, cj_dc, ck_and, ck_or, ck_xor, ck_shl, ck_shr, ck_ushr, ck_i2l, ck_l2i, ck_cmp]) ?_
        refine xZ.jc_ge (me := xm207) hP_207 rfl (fun h3 => ?_) (fun h3 => ?_)
        · skip
          exact xZ.sub (xsc (.head _) xsn) (show ([0, 1, 2, 3, 4, 5] : List Nat).Nodup from by decide) (k_f_Planner_search_275 O f d v0 M)
        · skip
          refine xZ.adv (me := xm207) hP_207 1 (pc' := 60) (lv' := [(0, .ref v0), (1, .int (yw v1)), (2, .int (yw v2)), (3, .int (yw v3)), (4, .int (yw v4)), (5, .int (yw v5))]) (st' := [.ref v0]) rfl ?_
          refine xZ.k_gR (me := xm207) hP_207 rfl (fun x1 => ?_)
          refine xZ.adv (me := xm207) hP_207 1 (pc' := 64) (lv' := [(0, .ref v0), (1, .int (yw v1)), (2, .int (yw v2)), (3, .int (yw v3)), (4, .int (yw v4)), (5, .int (yw v5))]) (st' := [.int (yw v3), .ref x1]) rfl ?_
          refine xZ.k_aJ (me := xm207) hP_207 rfl (fun x2 => ?_)
          refine xZ.adv (me := xm207) hP_207 2 (pc' := 69) (lv' := [(6, .int (yw x2)), (0, .ref v0), (1, .int (yw v1)), (2, .int (yw v2)), (3, .int (yw v3)), (4, .int (yw v4)), (5, .int (yw v5))]) (st' := [.int (yw x2)]) rfl ?_
          refine xZ.jf_lt (me := xm207) hP_207 rfl (fun h4 => ?_) (fun h4 => ?_)
          · skip
            exact xZ.sub (xsc (.tail _ (.head _)) (xsc (.tail _ (.tail _ (.head _))) (xsc (.tail _ (.tail _ (.tail _ (.head _)))) (xsc (.tail _ (.tail _ (.tail _ (.tail _ (.head _))))) (xsc (.tail _ (.tail _ (.tail _ (.tail _ (.tail _ (.head _)))))) (xsc (.tail _ (.tail _ (.tail _ (.tail _ (.tail _ (.tail _ (.head _))))))) (xsc (.head _) xsn))))))) (show ([6, 0, 1, 2, 3, 4, 5] : List Nat).Nodup from by decide) (k_f_Planner_search_90 O f d (f_Planner_search_43 O f n) ih v0 v1 v2 v3 v4 v5 x2 M)
          · skip
            refine xZ.adv (me := xm207) hP_207 2 (pc' := 77) (lv' := [(6, .int (yw x2)), (0, .ref v0), (1, .int (yw v1)), (2, .int (yw v2)), (3, .int (yw v3)), (4, .int (yw v4)), (5, .int (yw v5))]) (st' := [.ref 1000000001, .int (yw x2)]) rfl ?_
            refine xZ.k_aJN (me := xm207) hP_207 rfl (fun x3 => ?_)
            refine xZ.jc_ge (me := xm207) hP_207 rfl (fun h5 => ?_) (fun h5 => ?_)
            · skip
              exact xZ.sub (xsc (.tail _ (.head _)) (xsc (.tail _ (.tail _ (.head _))) (xsc (.tail _ (.tail _ (.tail _ (.head _)))) (xsc (.tail _ (.tail _ (.tail _ (.tail _ (.head _))))) (xsc (.tail _ (.tail _ (.tail _ (.tail _ (.tail _ (.head _)))))) (xsc (.tail _ (.tail _ (.tail _ (.tail _ (.tail _ (.tail _ (.head _))))))) (xsc (.head _) xsn))))))) (show ([6, 0, 1, 2, 3, 4, 5] : List Nat).Nodup from by decide) (k_f_Planner_search_90 O f d (f_Planner_search_43 O f n) ih v0 v1 v2 v3 v4 v5 x2 M)
            · skip
              refine xZ.adv (me := xm207) hP_207 2 (pc' := 86) (lv' := [(6, .int (yw x2)), (0, .ref v0), (1, .int (yw v1)), (2, .int (yw v2)), (3, .int (yw v3)), (4, .int (yw v4)), (5, .int (yw v5))]) (st' := [.int (yw x2), .ref 1000000001]) rfl ?_
              refine xZ.k_aJ (me := xm207) hP_207 rfl (fun x4 => ?_)
              refine xZ.adv (me := xm207) hP_207 1 (pc' := 92) (lv' := [(6, .int (yw x2)), (0, .ref v0), (1, .int (yw v1)), (2, .int (yw v2)), (3, .int (yw v3)), (4, .int (yw v4)), (5, .int (yw v5))]) (st' := [.int (yw x4)]) rfl ?_
              exact xZ.sub (xsc (.tail _ (.head _)) (xsc (.tail _ (.tail _ (.head _))) (xsc (.tail _ (.tail _ (.tail _ (.head _)))) (xsc (.tail _ (.tail _ (.tail _ (.tail _ (.head _))))) (xsc (.tail _ (.tail _ (.tail _ (.tail _ (.tail _ (.head _)))))) (xsc (.tail _ (.tail _ (.tail _ (.tail _ (.tail _ (.tail _ (.head _))))))) (xsc (.head _) xsn))))))) (show ([6, 0, 1, 2, 3, 4, 5] : List Nat).Nodup from by decide) (k_f_Planner_search_92 O f d (f_Planner_search_43 O f n) ih v0 v1 v2 v3 v4 v5 x2 x4 M)
def f_Planner_search_29 (O : Nat → Option va_E) (f : Nat) (v0 : Nat) (v1 : Int) (v2 : Int) (s0 : Int) (M : xM) : Option (Int × xM) :=
  (gR O M v0 7 7).bind fun x1 =>
  (wJ M x1 0 0).bind fun M1 =>
  f_Planner_search_43 O f f v0 v1 v2 s0 0 0 M1
set_option maxRecDepth 20000 in
theorem k_f_Planner_search_29 (O : Nat → Option va_E) (f d : Nat) (v0 : Nat) (v1 : Int) (v2 : Int) (s0 : Int) (M : xM) : xZ oJ O (d + 2) 207 29 [(0, .ref v0), (1, .int (yw v1)), (2, .int (yw v2))] [.int (yw s0)] M (f_Planner_search_29 O f v0 v1 v2 s0 M) := by
  unfold f_Planner_search_29
  refine xZ.adv (me := xm207) hP_207 4 (pc' := 34) (lv' := [(4, .int (0 : Int32)), (3, .int (yw s0)), (0, .ref v0), (1, .int (yw v1)), (2, .int (yw v2))]) (st' := [.ref v0]) rfl ?_
  refine xZ.eqs (lv2 := [(4, .int (yw 0)), (3, .int (yw s0)), (0, .ref v0), (1, .int (yw v1)), (2, .int (yw v2))]) (st2 := [.ref v0]) (by simp only [yl_lit, yL_lit, yw_add, yw_sub, yw_mul, yw_neg, yl_add, yl_sub, yl_mul, cj_and, cj_or, cj_xor, cj_shl, cj_shr, cj_ushr, cj_div, cj_i2c, cj_i2b, cj_dc, ck_and, ck_or, ck_xor, ck_shl, ck_shr, ck_ushr, ck_i2l, ck_l2i, ck_cmp]) rfl ?_
  refine xZ.k_gR (me := xm207) hP_207 rfl (fun x1 => ?_)
  refine xZ.adv (me := xm207) hP_207 2 (pc' := 39) (lv' := [(4, .int (yw 0)), (3, .int (yw s0)), (0, .ref v0), (1, .int (yw v1)), (2, .int (yw v2))]) (st' := [.int (0 : Int32), .int (0 : Int32), .ref x1]) rfl ?_
  refine xZ.eqs (lv2 := [(4, .int (yw 0)), (3, .int (yw s0)), (0, .ref v0), (1, .int (yw v1)), (2, .int (yw v2))]) (st2 := [.int (yw 0), .int (yw 0), .ref x1]) rfl (by simp only [yl_lit, yL_lit, yw_add, yw_sub, yw_mul, yw_neg, yl_add, yl_sub, yl_mul, cj_and, cj_or, cj_xor, cj_shl, cj_shr, cj_ushr, cj_div, cj_i2c, cj_i2b, cj_dc, ck_and, ck_or, ck_xor, ck_shl, ck_shr, ck_ushr, ck_i2l, ck_l2i, ck_cmp]) ?_
  refine xZ.k_wJ (me := xm207) hP_207 rfl (fun M1 => ?_)
  refine xZ.adv (me := xm207) hP_207 2 (pc' := 43) (lv' := [(5, .int (0 : Int32)), (4, .int (yw 0)), (3, .int (yw s0)), (0, .ref v0), (1, .int (yw v1)), (2, .int (yw v2))]) (st' := []) rfl ?_
  refine xZ.eqs (lv2 := [(5, .int (yw 0)), (4, .int (yw 0)), (3, .int (yw s0)), (0, .ref v0), (1, .int (yw v1)), (2, .int (yw v2))]) (st2 := []) (by simp only [yl_lit, yL_lit, yw_add, yw_sub, yw_mul, yw_neg, yl_add, yl_sub, yl_mul, cj_and, cj_or, cj_xor, cj_shl, cj_shr, cj_ushr, cj_div, cj_i2c, cj_i2b, cj_dc, ck_and, ck_or, ck_xor, ck_shl, ck_shr, ck_ushr, ck_i2l, ck_l2i, ck_cmp]) rfl ?_
  exact xZ.sub (xsc (.tail _ (.tail _ (.tail _ (.head _)))) (xsc (.tail _ (.tail _ (.tail _ (.tail _ (.head _))))) (xsc (.tail _ (.tail _ (.tail _ (.tail _ (.tail _ (.head _)))))) (xsc (.tail _ (.tail _ (.head _))) (xsc (.tail _ (.head _)) (xsc (.head _) xsn)))))) (show ([5, 4, 3, 0, 1, 2] : List Nat).Nodup from by decide) (k_f_Planner_search_43 O f d f v0 v1 v2 s0 0 0 M1)
def f_Planner_search_17 (O : Nat → Option va_E) (f : Nat) (v0 : Nat) (v1 : Int) (v2 : Int) (M : xM) : Option (Int × xM) :=
  (isO O M v0 7).bind fun _ =>
  xcl (f_Planner_count O f v0 M) fun x1 M1 =>
  if yw x1 = yw 0 then (
    f_Planner_search_29 O f v0 v1 v2 (-1) M1
  ) else
  f_Planner_search_29 O f v0 v1 v2 0 M1
set_option maxRecDepth 20000 in
theorem k_f_Planner_search_17 (O : Nat → Option va_E) (f d : Nat) (v0 : Nat) (v1 : Int) (v2 : Int) (M : xM) : xZ oJ O (d + 2) 207 17 [(0, .ref v0), (1, .int (yw v1)), (2, .int (yw v2))] [] M (f_Planner_search_17 O f v0 v1 v2 M) := by
  unfold f_Planner_search_17
  refine xZ.adv (me := xm207) hP_207 1 (pc' := 18) (lv' := [(0, .ref v0), (1, .int (yw v1)), (2, .int (yw v2))]) (st' := [.ref v0]) rfl ?_
  refine xZ.callv (κ := oJ) (av := []) (rest := []) (st' := fun x1 => [.int (yw x1)]) (k0 := v0) (me := xm207) hP_207 rfl (Or.inl rfl) ⟨rfl, by decide⟩ rfl rfl (Nat.le_of_ble_eq_true rfl) (by decide) hP_208 (Nat.le_of_ble_eq_true rfl) (fun _ => rfl) (k_f_Planner_count O f (d + 0) v0 M) (fun x1 M1 => ?_)
  refine xZ.jf_ne (me := xm207) hP_207 rfl (fun h1 => ?_) (fun h1 => ?_)
  · skip
    refine xZ.adv (me := xm207) hP_207 2 (pc' := 29) (lv' := [(0, .ref v0), (1, .int (yw v1)), (2, .int (yw v2))]) (st' := [.int (-1 : Int32)]) rfl ?_
    refine xZ.eqs (lv2 := [(0, .ref v0), (1, .int (yw v1)), (2, .int (yw v2))]) (st2 := [.int (yw (-1))]) rfl (by simp only [yl_lit, yL_lit, yw_add, yw_sub, yw_mul, yw_neg, yl_add, yl_sub, yl_mul, cj_and, cj_or, cj_xor, cj_shl, cj_shr, cj_ushr, cj_div, cj_i2c, cj_i2b, cj_dc, ck_and, ck_or, ck_xor, ck_shl, ck_shr, ck_ushr, ck_i2l, ck_l2i, ck_cmp]) ?_
    exact (k_f_Planner_search_29 O f d v0 v1 v2 (-1) M1)
  · skip
    refine xZ.adv (me := xm207) hP_207 1 (pc' := 29) (lv' := [(0, .ref v0), (1, .int (yw v1)), (2, .int (yw v2))]) (st' := [.int (0 : Int32)]) rfl ?_
    refine xZ.eqs (lv2 := [(0, .ref v0), (1, .int (yw v1)), (2, .int (yw v2))]) (st2 := [.int (yw 0)]) rfl (by simp only [yl_lit, yL_lit, yw_add, yw_sub, yw_mul, yw_neg, yl_add, yl_sub, yl_mul, cj_and, cj_or, cj_xor, cj_shl, cj_shr, cj_ushr, cj_div, cj_i2c, cj_i2b, cj_dc, ck_and, ck_or, ck_xor, ck_shl, ck_shr, ck_ushr, ck_i2l, ck_l2i, ck_cmp]) ?_
    exact (k_f_Planner_search_29 O f d v0 v1 v2 0 M1)
def f_Planner_search (O : Nat → Option va_E) (f : Nat) (v0 : Nat) (v1 : Int) (v2 : Int) (M : xM) : Option (Int × xM) :=
  (pJ M v0 7 8 (-1)).bind fun M1 =>
  (isO O M1 v0 7).bind fun _ =>
  xcl (f_Planner_count O f v0 M1) fun x1 M2 =>
  if yw x1 = yw 0 then (
    (pJ M2 v0 7 8 0).bind fun M3 =>
    f_Planner_search_17 O f v0 v1 v2 M3
  ) else
  f_Planner_search_17 O f v0 v1 v2 M2
set_option maxRecDepth 20000 in
theorem k_f_Planner_search (O : Nat → Option va_E) (f d : Nat) (v0 : Nat) (v1 : Int) (v2 : Int) (M : xM) : xZ oJ O (d + 2) 207 0 [(0, .ref v0), (1, .int (yw v1)), (2, .int (yw v2))] [] M (f_Planner_search O f v0 v1 v2 M) := by
  unfold f_Planner_search
  refine xZ.adv (me := xm207) hP_207 2 (pc' := 2) (lv' := [(0, .ref v0), (1, .int (yw v1)), (2, .int (yw v2))]) (st' := [.int (-1 : Int32), .ref v0]) rfl ?_
  refine xZ.eqs (lv2 := [(0, .ref v0), (1, .int (yw v1)), (2, .int (yw v2))]) (st2 := [.int (yw (-1)), .ref v0]) rfl (by simp only [yl_lit, yL_lit, yw_add, yw_sub, yw_mul, yw_neg, yl_add, yl_sub, yl_mul, cj_and, cj_or, cj_xor, cj_shl, cj_shr, cj_ushr, cj_div, cj_i2c, cj_i2b, cj_dc, ck_and, ck_or, ck_xor, ck_shl, ck_shr, ck_ushr, ck_i2l, ck_l2i, ck_cmp]) ?_
  refine xZ.k_pJ (me := xm207) hP_207 rfl (fun M1 => ?_)
  refine xZ.adv (me := xm207) hP_207 1 (pc' := 6) (lv' := [(0, .ref v0), (1, .int (yw v1)), (2, .int (yw v2))]) (st' := [.ref v0]) rfl ?_
  refine xZ.callv (κ := oJ) (av := []) (rest := []) (st' := fun x1 => [.int (yw x1)]) (k0 := v0) (me := xm207) hP_207 rfl (Or.inl rfl) ⟨rfl, by decide⟩ rfl rfl (Nat.le_of_ble_eq_true rfl) (by decide) hP_208 (Nat.le_of_ble_eq_true rfl) (fun _ => rfl) (k_f_Planner_count O f (d + 0) v0 M1) (fun x1 M2 => ?_)
  refine xZ.jf_ne (me := xm207) hP_207 rfl (fun h1 => ?_) (fun h1 => ?_)
  · skip
    refine xZ.adv (me := xm207) hP_207 2 (pc' := 14) (lv' := [(0, .ref v0), (1, .int (yw v1)), (2, .int (yw v2))]) (st' := [.int (0 : Int32), .ref v0]) rfl ?_
    refine xZ.eqs (lv2 := [(0, .ref v0), (1, .int (yw v1)), (2, .int (yw v2))]) (st2 := [.int (yw 0), .ref v0]) rfl (by simp only [yl_lit, yL_lit, yw_add, yw_sub, yw_mul, yw_neg, yl_add, yl_sub, yl_mul, cj_and, cj_or, cj_xor, cj_shl, cj_shr, cj_ushr, cj_div, cj_i2c, cj_i2b, cj_dc, ck_and, ck_or, ck_xor, ck_shl, ck_shr, ck_ushr, ck_i2l, ck_l2i, ck_cmp]) ?_
    refine xZ.k_pJ (me := xm207) hP_207 rfl (fun M3 => ?_)
    exact (k_f_Planner_search_17 O f d v0 v1 v2 M3)
  · skip
    exact (k_f_Planner_search_17 O f d v0 v1 v2 M2)
