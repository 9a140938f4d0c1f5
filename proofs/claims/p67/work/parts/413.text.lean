/-! ===== texts ===== -/
def f_Series_takers_7 (O : Nat → Option va_E) (f : Nat) : Nat → Nat → Int → Int → xM → Option (Int × xM)
  | 0, _, _, _, _ => none
  | n + 1, v0, v1, v2, M =>
    (gR O M v0 10 10).bind fun x1 =>
    (aJN O M x1).bind fun x2 =>
    if yw x2 ≤ yw v2 then (
      some (v1, M)
    ) else
    (gR O M v0 10 10).bind fun x3 =>
    (aJ O M x3 v2).bind fun x4 =>
    if yw x4 = yw 2 then (
      xlet (jand v1 (jxor (jshl 1 (jand v2 31)) (-1))) fun x5 =>
      f_Series_takers_7 O f n v0 x5 (v2 + 1) M
    ) else
    f_Series_takers_7 O f n v0 v1 (v2 + 1) M
set_option maxRecDepth 20000 in
theorem k_f_Series_takers_7 (O : Nat → Option va_E) (f d : Nat) : ∀ (n : Nat) (v0 : Nat) (v1 : Int) (v2 : Int) (M : xM), xZ oJ O (d + 0) 159 7 [(0, .ref v0), (1, .int (yw v1)), (2, .int (yw v2))] [] M (f_Series_takers_7 O f n v0 v1 v2 M) := by
  intro n
  induction n with
  | zero =>
    intro v0 v1 v2 M
    exact xZ.no
  | succ n ih =>
    intro v0 v1 v2 M
    unfold f_Series_takers_7
    refine xZ.adv (me := xm159) hP_159 2 (pc' := 9) (lv' := [(0, .ref v0), (1, .int (yw v1)), (2, .int (yw v2))]) (st' := [.ref v0, .int (yw v2)]) rfl ?_
    refine xZ.k_gR (me := xm159) hP_159 rfl (fun x1 => ?_)
    refine xZ.k_aJN (me := xm159) hP_159 rfl (fun x2 => ?_)
    refine xZ.jc_ge (me := xm159) hP_159 rfl (fun h1 => ?_) (fun h1 => ?_)
    · skip
      refine xZ.adv (me := xm159) hP_159 1 (pc' := 41) (lv' := [(0, .ref v0), (1, .int (yw v1)), (2, .int (yw v2))]) (st' := [.int (yw v1)]) rfl ?_
      exact xZ.jreti (me := xm159) hP_159 rfl rfl
    · skip
      refine xZ.adv (me := xm159) hP_159 1 (pc' := 17) (lv' := [(0, .ref v0), (1, .int (yw v1)), (2, .int (yw v2))]) (st' := [.ref v0]) rfl ?_
      refine xZ.k_gR (me := xm159) hP_159 rfl (fun x3 => ?_)
      refine xZ.adv (me := xm159) hP_159 1 (pc' := 21) (lv' := [(0, .ref v0), (1, .int (yw v1)), (2, .int (yw v2))]) (st' := [.int (yw v2), .ref x3]) rfl ?_
      refine xZ.k_aJ (me := xm159) hP_159 rfl (fun x4 => ?_)
      refine xZ.adv (me := xm159) hP_159 1 (pc' := 23) (lv' := [(0, .ref v0), (1, .int (yw v1)), (2, .int (yw v2))]) (st' := [.int (2 : Int32), .int (yw x4)]) rfl ?_
      refine xZ.eqs (lv2 := [(0, .ref v0), (1, .int (yw v1)), (2, .int (yw v2))]) (st2 := [.int (yw 2), .int (yw x4)]) rfl (by simp only [yl_lit, yL_lit, yw_add, yw_sub, yw_mul, yw_neg, yl_add, yl_sub, yl_mul, cj_and, cj_or, cj_xor, cj_shl, cj_shr, cj_ushr, cj_div, cj_i2c, cj_i2b, cj_dc, ck_and, ck_or, ck_xor, ck_shl, ck_shr, ck_ushr, ck_i2l, ck_l2i, ck_cmp]) ?_
      refine xZ.jc_ne (me := xm159) hP_159 rfl (fun h2 => ?_) (fun h2 => ?_)
      · skip
        refine xZ.adv (me := xm159) hP_159 8 (pc' := 34) (lv' := [(1, .int ((yw v1) &&& (((1 : Int32) <<< ((yw v2) &&& 31)) ^^^ (-1 : Int32)))), (0, .ref v0), (2, .int (yw v2))]) (st' := []) rfl ?_
        refine xZ.eqs (lv2 := [(1, .int (yw (jand v1 (jxor (jshl 1 (jand v2 31)) (-1))))), (0, .ref v0), (2, .int (yw v2))]) (st2 := []) (by simp only [yl_lit, yL_lit, yw_add, yw_sub, yw_mul, yw_neg, yl_add, yl_sub, yl_mul, cj_and, cj_or, cj_xor, cj_shl, cj_shr, cj_ushr, cj_div, cj_i2c, cj_i2b, cj_dc, ck_and, ck_or, ck_xor, ck_shl, ck_shr, ck_ushr, ck_i2l, ck_l2i, ck_cmp]) rfl ?_
        refine xZ.letI (v := (jand v1 (jxor (jshl 1 (jand v2 31)) (-1)))) (lvf := fun x5 => [(1, .int (yw x5)), (0, .ref v0), (2, .int (yw v2))]) (stf := fun x5 => []) ?_
        intro x5
        refine xZ.adv (me := xm159) hP_159 2 (pc' := 7) (lv' := [(2, .int ((yw v2) + (1 : Int32))), (1, .int (yw x5)), (0, .ref v0)]) (st' := []) rfl ?_
        refine xZ.eqs (lv2 := [(2, .int (yw (v2 + 1))), (1, .int (yw x5)), (0, .ref v0)]) (st2 := []) (by simp only [yl_lit, yL_lit, yw_add, yw_sub, yw_mul, yw_neg, yl_add, yl_sub, yl_mul, cj_and, cj_or, cj_xor, cj_shl, cj_shr, cj_ushr, cj_div, cj_i2c, cj_i2b, cj_dc, ck_and, ck_or, ck_xor, ck_shl, ck_shr, ck_ushr, ck_i2l, ck_l2i, ck_cmp]) rfl ?_
        exact xZ.sub (xsc (.tail _ (.tail _ (.head _))) (xsc (.tail _ (.head _)) (xsc (.head _) xsn))) (show ([2, 1, 0] : List Nat).Nodup from by decide) (ih v0 x5 (v2 + 1) M)
      · skip
        refine xZ.adv (me := xm159) hP_159 2 (pc' := 7) (lv' := [(2, .int ((yw v2) + (1 : Int32))), (0, .ref v0), (1, .int (yw v1))]) (st' := []) rfl ?_
        refine xZ.eqs (lv2 := [(2, .int (yw (v2 + 1))), (0, .ref v0), (1, .int (yw v1))]) (st2 := []) (by simp only [yl_lit, yL_lit, yw_add, yw_sub, yw_mul, yw_neg, yl_add, yl_sub, yl_mul, cj_and, cj_or, cj_xor, cj_shl, cj_shr, cj_ushr, cj_div, cj_i2c, cj_i2b, cj_dc, ck_and, ck_or, ck_xor, ck_shl, ck_shr, ck_ushr, ck_i2l, ck_l2i, ck_cmp]) rfl ?_
        exact xZ.sub (xsc (.tail _ (.head _)) (xsc (.tail _ (.tail _ (.head _))) (xsc (.head _) xsn))) (show ([2, 0, 1] : List Nat).Nodup from by decide) (ih v0 v1 (v2 + 1) M)
def f_Series_takers (O : Nat → Option va_E) (f : Nat) (v0 : Nat) (M : xM) : Option (Int × xM) :=
  (gJ O M v0 10 4).bind fun x1 =>
  f_Series_takers_7 O f f v0 x1 0 M
set_option maxRecDepth 20000 in
theorem k_f_Series_takers (O : Nat → Option va_E) (f d : Nat) (v0 : Nat) (M : xM) : xZ oJ O (d + 0) 159 0 [(0, .ref v0)] [] M (f_Series_takers O f v0 M) := by
  unfold f_Series_takers
  refine xZ.adv (me := xm159) hP_159 1 (pc' := 1) (lv' := [(0, .ref v0)]) (st' := [.ref v0]) rfl ?_
  refine xZ.k_gJ (me := xm159) hP_159 rfl (fun x1 => ?_)
  refine xZ.adv (me := xm159) hP_159 3 (pc' := 7) (lv' := [(2, .int (0 : Int32)), (1, .int (yw x1)), (0, .ref v0)]) (st' := []) rfl ?_
  refine xZ.eqs (lv2 := [(2, .int (yw 0)), (1, .int (yw x1)), (0, .ref v0)]) (st2 := []) (by simp only [yl_lit, yL_lit, yw_add, yw_sub, yw_mul, yw_neg, yl_add, yl_sub, yl_mul, cj_and, cj_or, cj_xor, cj_shl, cj_shr, cj_ushr, cj_div, cj_i2c, cj_i2b, cj_dc, ck_and, ck_or, ck_xor, ck_shl, ck_shr, ck_ushr, ck_i2l, ck_l2i, ck_cmp]) rfl ?_
  exact xZ.sub (xsc (.tail _ (.tail _ (.head _))) (xsc (.tail _ (.head _)) (xsc (.head _) xsn))) (show ([2, 1, 0] : List Nat).Nodup from by decide) (k_f_Series_takers_7 O f d f v0 x1 0 M)
def f_Hall_seriesOf_4 (O : Nat → Option va_E) (f : Nat) : Nat → Nat → Int → Int → Int → xM → Option (Int × xM)
  | 0, _, _, _, _, _ => none
  | n + 1, v0, v1, v2, v3, M =>
    (gR O M v0 4 3).bind fun x1 =>
    (aJN O M x1).bind fun x2 =>
    if yw x2 ≤ yw v3 then (
      some (v2, M)
    ) else
    (gR O M v0 4 3).bind fun x3 =>
    (aJR O M x3 v3).bind fun x4 =>
    (gJ O M x4 10 0).bind fun x5 =>
    if yw x5 = yw 0 then (
      f_Hall_seriesOf_4 O f n v0 v1 v2 (v3 + 1) M
    ) else
    (gR O M v0 4 3).bind fun x6 =>
    (aJR O M x6 v3).bind fun x7 =>
    (isO O M x7 10).bind fun _ =>
    xcl (f_Series_takers O f x7 M) fun x8 M1 =>
    if yw (jand x8 v1) = yw 0 then (
      f_Hall_seriesOf_4 O f n v0 v1 v2 (v3 + 1) M1
    ) else
    xlet (jor v2 (jshl 1 (jand v3 31))) fun x9 =>
    f_Hall_seriesOf_4 O f n v0 v1 x9 (v3 + 1) M1
set_option maxRecDepth 20000 in
theorem k_f_Hall_seriesOf_4 (O : Nat → Option va_E) (f d : Nat) : ∀ (n : Nat) (v0 : Nat) (v1 : Int) (v2 : Int) (v3 : Int) (M : xM), xZ oJ O (d + 1) 158 4 [(0, .ref v0), (1, .int (yw v1)), (2, .int (yw v2)), (3, .int (yw v3))] [] M (f_Hall_seriesOf_4 O f n v0 v1 v2 v3 M) := by
  intro n
  induction n with
  | zero =>
    intro v0 v1 v2 v3 M
    exact xZ.no
  | succ n ih =>
    intro v0 v1 v2 v3 M
    unfold f_Hall_seriesOf_4
    refine xZ.adv (me := xm158) hP_158 2 (pc' := 6) (lv' := [(0, .ref v0), (1, .int (yw v1)), (2, .int (yw v2)), (3, .int (yw v3))]) (st' := [.ref v0, .int (yw v3)]) rfl ?_
    refine xZ.k_gR (me := xm158) hP_158 rfl (fun x1 => ?_)
    refine xZ.k_aJN (me := xm158) hP_158 rfl (fun x2 => ?_)
    refine xZ.jc_ge (me := xm158) hP_158 rfl (fun h1 => ?_) (fun h1 => ?_)
    · skip
      refine xZ.adv (me := xm158) hP_158 1 (pc' := 52) (lv' := [(0, .ref v0), (1, .int (yw v1)), (2, .int (yw v2)), (3, .int (yw v3))]) (st' := [.int (yw v2)]) rfl ?_
      exact xZ.jreti (me := xm158) hP_158 rfl rfl
    · skip
      refine xZ.adv (me := xm158) hP_158 1 (pc' := 14) (lv' := [(0, .ref v0), (1, .int (yw v1)), (2, .int (yw v2)), (3, .int (yw v3))]) (st' := [.ref v0]) rfl ?_
      refine xZ.k_gR (me := xm158) hP_158 rfl (fun x3 => ?_)
      refine xZ.adv (me := xm158) hP_158 1 (pc' := 18) (lv' := [(0, .ref v0), (1, .int (yw v1)), (2, .int (yw v2)), (3, .int (yw v3))]) (st' := [.int (yw v3), .ref x3]) rfl ?_
      refine xZ.k_aJR (me := xm158) hP_158 rfl (fun x4 => ?_)
      refine xZ.k_gJ (me := xm158) hP_158 rfl (fun x5 => ?_)
      refine xZ.jf_eq (me := xm158) hP_158 rfl (fun h2 => ?_) (fun h2 => ?_)
      · skip
        refine xZ.adv (me := xm158) hP_158 2 (pc' := 4) (lv' := [(3, .int ((yw v3) + (1 : Int32))), (0, .ref v0), (1, .int (yw v1)), (2, .int (yw v2))]) (st' := []) rfl ?_
        refine xZ.eqs (lv2 := [(3, .int (yw (v3 + 1))), (0, .ref v0), (1, .int (yw v1)), (2, .int (yw v2))]) (st2 := []) (by simp only [yl_lit, yL_lit, yw_add, yw_sub, yw_mul, yw_neg, yl_add, yl_sub, yl_mul, cj_and, cj_or, cj_xor, cj_shl, cj_shr, cj_ushr, cj_div, cj_i2c, cj_i2b, cj_dc, ck_and, ck_or, ck_xor, ck_shl, ck_shr, ck_ushr, ck_i2l, ck_l2i, ck_cmp]) rfl ?_
        exact xZ.sub (xsc (.tail _ (.head _)) (xsc (.tail _ (.tail _ (.head _))) (xsc (.tail _ (.tail _ (.tail _ (.head _)))) (xsc (.head _) xsn)))) (show ([3, 0, 1, 2] : List Nat).Nodup from by decide) (ih v0 v1 v2 (v3 + 1) M)
      · skip
        refine xZ.adv (me := xm158) hP_158 1 (pc' := 26) (lv' := [(0, .ref v0), (1, .int (yw v1)), (2, .int (yw v2)), (3, .int (yw v3))]) (st' := [.ref v0]) rfl ?_
        refine xZ.k_gR (me := xm158) hP_158 rfl (fun x6 => ?_)
        refine xZ.adv (me := xm158) hP_158 1 (pc' := 30) (lv' := [(0, .ref v0), (1, .int (yw v1)), (2, .int (yw v2)), (3, .int (yw v3))]) (st' := [.int (yw v3), .ref x6]) rfl ?_
        refine xZ.k_aJR (me := xm158) hP_158 rfl (fun x7 => ?_)
        refine xZ.callv (κ := oJ) (av := []) (rest := []) (st' := fun x8 => [.int (yw x8)]) (k0 := x7) (me := xm158) hP_158 rfl (Or.inl rfl) ⟨rfl, by decide⟩ rfl rfl (Nat.le_of_ble_eq_true rfl) (by decide) hP_159 (Nat.le_of_ble_eq_true rfl) (fun _ => rfl) (k_f_Series_takers O f (d + 0) x7 M) (fun x8 M1 => ?_)
        refine xZ.adv (me := xm158) hP_158 2 (pc' := 36) (lv' := [(0, .ref v0), (1, .int (yw v1)), (2, .int (yw v2)), (3, .int (yw v3))]) (st' := [.int ((yw x8) &&& (yw v1))]) rfl ?_
        refine xZ.eqs (lv2 := [(0, .ref v0), (1, .int (yw v1)), (2, .int (yw v2)), (3, .int (yw v3))]) (st2 := [.int (yw (jand x8 v1))]) rfl (by simp only [yl_lit, yL_lit, yw_add, yw_sub, yw_mul, yw_neg, yl_add, yl_sub, yl_mul, cj_and, cj_or, cj_xor, cj_shl, cj_shr, cj_ushr, cj_div, cj_i2c, cj_i2b, cj_dc, ck_and, ck_or, ck_xor, ck_shl, ck_shr, ck_ushr, ck_i2l, ck_l2i, ck_cmp]) ?_
        refine xZ.jf_eq (me := xm158) hP_158 rfl (fun h3 => ?_) (fun h3 => ?_)
        · skip
          refine xZ.adv (me := xm158) hP_158 2 (pc' := 4) (lv' := [(3, .int ((yw v3) + (1 : Int32))), (0, .ref v0), (1, .int (yw v1)), (2, .int (yw v2))]) (st' := []) rfl ?_
          refine xZ.eqs (lv2 := [(3, .int (yw (v3 + 1))), (0, .ref v0), (1, .int (yw v1)), (2, .int (yw v2))]) (st2 := []) (by simp only [yl_lit, yL_lit, yw_add, yw_sub, yw_mul, yw_neg, yl_add, yl_sub, yl_mul, cj_and, cj_or, cj_xor, cj_shl, cj_shr, cj_ushr, cj_div, cj_i2c, cj_i2b, cj_dc, ck_and, ck_or, ck_xor, ck_shl, ck_shr, ck_ushr, ck_i2l, ck_l2i, ck_cmp]) rfl ?_
          exact xZ.sub (xsc (.tail _ (.head _)) (xsc (.tail _ (.tail _ (.head _))) (xsc (.tail _ (.tail _ (.tail _ (.head _)))) (xsc (.head _) xsn)))) (show ([3, 0, 1, 2] : List Nat).Nodup from by decide) (ih v0 v1 v2 (v3 + 1) M1)
        · skip
          refine xZ.adv (me := xm158) hP_158 6 (pc' := 45) (lv' := [(2, .int ((yw v2) ||| ((1 : Int32) <<< ((yw v3) &&& 31)))), (0, .ref v0), (1, .int (yw v1)), (3, .int (yw v3))]) (st' := []) rfl ?_
          refine xZ.eqs (lv2 := [(2, .int (yw (jor v2 (jshl 1 (jand v3 31))))), (0, .ref v0), (1, .int (yw v1)), (3, .int (yw v3))]) (st2 := []) (by simp only [yl_lit, yL_lit, yw_add, yw_sub, yw_mul, yw_neg, yl_add, yl_sub, yl_mul, cj_and, cj_or, cj_xor, cj_shl, cj_shr, cj_ushr, cj_div, cj_i2c, cj_i2b, cj_dc, ck_and, ck_or, ck_xor, ck_shl, ck_shr, ck_ushr, ck_i2l, ck_l2i, ck_cmp]) rfl ?_
          refine xZ.letI (v := (jor v2 (jshl 1 (jand v3 31)))) (lvf := fun x9 => [(2, .int (yw x9)), (0, .ref v0), (1, .int (yw v1)), (3, .int (yw v3))]) (stf := fun x9 => []) ?_
          intro x9
          refine xZ.adv (me := xm158) hP_158 2 (pc' := 4) (lv' := [(3, .int ((yw v3) + (1 : Int32))), (2, .int (yw x9)), (0, .ref v0), (1, .int (yw v1))]) (st' := []) rfl ?_
          refine xZ.eqs (lv2 := [(3, .int (yw (v3 + 1))), (2, .int (yw x9)), (0, .ref v0), (1, .int (yw v1))]) (st2 := []) (by simp only [yl_lit, yL_lit, yw_add, yw_sub, yw_mul, yw_neg, yl_add, yl_sub, yl_mul, cj_and, cj_or, cj_xor, cj_shl, cj_shr, cj_ushr, cj_div, cj_i2c, cj_i2b, cj_dc, ck_and, ck_or, ck_xor, ck_shl, ck_shr, ck_ushr, ck_i2l, ck_l2i, ck_cmp]) rfl ?_
          exact xZ.sub (xsc (.tail _ (.tail _ (.head _))) (xsc (.tail _ (.tail _ (.tail _ (.head _)))) (xsc (.tail _ (.head _)) (xsc (.head _) xsn)))) (show ([3, 2, 0, 1] : List Nat).Nodup from by decide) (ih v0 v1 x9 (v3 + 1) M1)
def f_Hall_seriesOf (O : Nat → Option va_E) (f : Nat) (v0 : Nat) (v1 : Int) (M : xM) : Option (Int × xM) :=
  f_Hall_seriesOf_4 O f f v0 v1 0 0 M
set_option maxRecDepth 20000 in
theorem k_f_Hall_seriesOf (O : Nat → Option va_E) (f d : Nat) (v0 : Nat) (v1 : Int) (M : xM) : xZ oJ O (d + 1) 158 0 [(0, .ref v0), (1, .int (yw v1))] [] M (f_Hall_seriesOf O f v0 v1 M) := by
  unfold f_Hall_seriesOf
  refine xZ.adv (me := xm158) hP_158 4 (pc' := 4) (lv' := [(3, .int (0 : Int32)), (2, .int (0 : Int32)), (0, .ref v0), (1, .int (yw v1))]) (st' := []) rfl ?_
  refine xZ.eqs (lv2 := [(3, .int (yw 0)), (2, .int (yw 0)), (0, .ref v0), (1, .int (yw v1))]) (st2 := []) (by simp only [yl_lit, yL_lit, yw_add, yw_sub, yw_mul, yw_neg, yl_add, yl_sub, yl_mul, cj_and, cj_or, cj_xor, cj_shl, cj_shr, cj_ushr, cj_div, cj_i2c, cj_i2b, cj_dc, ck_and, ck_or, ck_xor, ck_shl, ck_shr, ck_ushr, ck_i2l, ck_l2i, ck_cmp]) rfl ?_
  exact xZ.sub (xsc (.tail _ (.tail _ (.head _))) (xsc (.tail _ (.tail _ (.tail _ (.head _)))) (xsc (.tail _ (.head _)) (xsc (.head _) xsn)))) (show ([3, 2, 0, 1] : List Nat).Nodup from by decide) (k_f_Hall_seriesOf_4 O f d f v0 v1 0 0 M)
def f_Calendarhall_datesAt_27 (O : Nat → Option va_E) (f : Nat) : Nat → Nat → Int → Int → Int → Int → xM → Option (Int × xM)
  | 0, _, _, _, _, _, _ => none
  | n + 1, v0, v2, v3, v4, v5, M =>
    if yw 12 ≤ yw v5 then (
      some (v4, M)
    ) else
    (gR O M v0 12 0).bind fun x1 =>
    (isO O M x1 4).bind fun _ =>
    xcl (f_Hall_anySeries O f x1 v5 M) fun x2 M1 =>
    if yw (jand (jshr v3 (jand v5 31)) 1) = yw 1 then (
      (gR O M1 v0 12 0).bind fun x3 =>
      (isO O M1 x3 4).bind fun _ =>
      xcl (f_Hall_zoneOf O f x3 x2 M1) fun x4 M2 =>
      (gJ O M2 x2 10 3).bind fun x5 =>
      (isO O M2 x2 10).bind fun _ =>
      xcl (f_Series_countBegins O f x2 x4 ((v2 - x5) + 1) (v2 + 1) M2) fun x6 M3 =>
      f_Calendarhall_datesAt_27 O f n v0 v2 v3 (v4 + x6) (v5 + 1) M3
    ) else
    f_Calendarhall_datesAt_27 O f n v0 v2 v3 v4 (v5 + 1) M1
set_option maxRecDepth 20000 in
theorem k_f_Calendarhall_datesAt_27 (O : Nat → Option va_E) (f d : Nat) : ∀ (n : Nat) (v0 : Nat) (v2 : Int) (v3 : Int) (v4 : Int) (v5 : Int) (M : xM), xZ oJ O (d + 6) 157 27 [(0, .ref v0), (2, .int (yw v2)), (3, .int (yw v3)), (4, .int (yw v4)), (5, .int (yw v5))] [] M (f_Calendarhall_datesAt_27 O f n v0 v2 v3 v4 v5 M) := by
  intro n
  induction n with
  | zero =>
    intro v0 v2 v3 v4 v5 M
    exact xZ.no
  | succ n ih =>
    intro v0 v2 v3 v4 v5 M
    unfold f_Calendarhall_datesAt_27
    refine xZ.adv (me := xm157) hP_157 2 (pc' := 31) (lv' := [(0, .ref v0), (2, .int (yw v2)), (3, .int (yw v3)), (4, .int (yw v4)), (5, .int (yw v5))]) (st' := [.int (12 : Int32), .int (yw v5)]) rfl ?_
    refine xZ.eqs (lv2 := [(0, .ref v0), (2, .int (yw v2)), (3, .int (yw v3)), (4, .int (yw v4)), (5, .int (yw v5))]) (st2 := [.int (yw 12), .int (yw v5)]) rfl (by simp only [yl_lit, yL_lit, yw_add, yw_sub, yw_mul, yw_neg, yl_add, yl_sub, yl_mul, cj_and, cj_or, cj_xor, cj_shl, cj_shr, cj_ushr, cj_div, cj_i2c, cj_i2b, cj_dc, ck_and, ck_or, ck_xor, ck_shl, ck_shr, ck_ushr, ck_i2l, ck_l2i, ck_cmp]) ?_
    refine xZ.jc_ge (me := xm157) hP_157 rfl (fun h1 => ?_) (fun h1 => ?_)
    · skip
      refine xZ.adv (me := xm157) hP_157 1 (pc' := 94) (lv' := [(0, .ref v0), (2, .int (yw v2)), (3, .int (yw v3)), (4, .int (yw v4)), (5, .int (yw v5))]) (st' := [.int (yw v4)]) rfl ?_
      exact xZ.jreti (me := xm157) hP_157 rfl rfl
    · skip
      refine xZ.adv (me := xm157) hP_157 1 (pc' := 35) (lv' := [(0, .ref v0), (2, .int (yw v2)), (3, .int (yw v3)), (4, .int (yw v4)), (5, .int (yw v5))]) (st' := [.ref v0]) rfl ?_
      refine xZ.k_gR (me := xm157) hP_157 rfl (fun x1 => ?_)
      refine xZ.adv (me := xm157) hP_157 1 (pc' := 40) (lv' := [(0, .ref v0), (2, .int (yw v2)), (3, .int (yw v3)), (4, .int (yw v4)), (5, .int (yw v5))]) (st' := [.int (yw v5), .ref x1]) rfl ?_
      refine xZ.callv (κ := oR) (av := [.int (yw v5)]) (rest := []) (st' := fun x2 => [.ref x2]) (k0 := x1) (me := xm157) hP_157 rfl (Or.inl rfl) ⟨rfl, by decide⟩ rfl rfl (Nat.le_of_ble_eq_true rfl) (by decide) hP_29 (Nat.le_of_ble_eq_true rfl) (fun _ => rfl) (k_f_Hall_anySeries O f (d + 5) x1 v5 M) (fun x2 M1 => ?_)
      refine xZ.adv (me := xm157) hP_157 7 (pc' := 52) (lv' := [(6, .ref x2), (0, .ref v0), (2, .int (yw v2)), (3, .int (yw v3)), (4, .int (yw v4)), (5, .int (yw v5))]) (st' := [.int (1 : Int32), .int (((yw v3) >>> ((yw v5) &&& 31)) &&& (1 : Int32))]) rfl ?_
      refine xZ.eqs (lv2 := [(6, .ref x2), (0, .ref v0), (2, .int (yw v2)), (3, .int (yw v3)), (4, .int (yw v4)), (5, .int (yw v5))]) (st2 := [.int (yw 1), .int (yw (jand (jshr v3 (jand v5 31)) 1))]) rfl (by simp only [yl_lit, yL_lit, yw_add, yw_sub, yw_mul, yw_neg, yl_add, yl_sub, yl_mul, cj_and, cj_or, cj_xor, cj_shl, cj_shr, cj_ushr, cj_div, cj_i2c, cj_i2b, cj_dc, ck_and, ck_or, ck_xor, ck_shl, ck_shr, ck_ushr, ck_i2l, ck_l2i, ck_cmp]) ?_
      refine xZ.jc_ne (me := xm157) hP_157 rfl (fun h2 => ?_) (fun h2 => ?_)
      · skip
        refine xZ.adv (me := xm157) hP_157 3 (pc' := 60) (lv' := [(6, .ref x2), (0, .ref v0), (2, .int (yw v2)), (3, .int (yw v3)), (4, .int (yw v4)), (5, .int (yw v5))]) (st' := [.ref v0, .ref x2, .int (yw v4)]) rfl ?_
        refine xZ.k_gR (me := xm157) hP_157 rfl (fun x3 => ?_)
        refine xZ.adv (me := xm157) hP_157 1 (pc' := 65) (lv' := [(6, .ref x2), (0, .ref v0), (2, .int (yw v2)), (3, .int (yw v3)), (4, .int (yw v4)), (5, .int (yw v5))]) (st' := [.ref x2, .ref x3, .ref x2, .int (yw v4)]) rfl ?_
        refine xZ.callv (κ := oR) (av := [.ref x2]) (rest := [.ref x2, .int (yw v4)]) (st' := fun x4 => [.ref x4, .ref x2, .int (yw v4)]) (k0 := x3) (me := xm157) hP_157 rfl (Or.inl rfl) ⟨rfl, by decide⟩ rfl rfl (Nat.le_of_ble_eq_true rfl) (by decide) hP_102 (Nat.le_of_ble_eq_true rfl) (fun _ => rfl) (k_f_Hall_zoneOf O f (d + 4) x3 x2 M1) (fun x4 M2 => ?_)
        refine xZ.adv (me := xm157) hP_157 2 (pc' := 71) (lv' := [(6, .ref x2), (0, .ref v0), (2, .int (yw v2)), (3, .int (yw v3)), (4, .int (yw v4)), (5, .int (yw v5))]) (st' := [.ref x2, .int (yw v2), .ref x4, .ref x2, .int (yw v4)]) rfl ?_
        refine xZ.k_gJ (me := xm157) hP_157 rfl (fun x5 => ?_)
        refine xZ.adv (me := xm157) hP_157 6 (pc' := 80) (lv' := [(6, .ref x2), (0, .ref v0), (2, .int (yw v2)), (3, .int (yw v3)), (4, .int (yw v4)), (5, .int (yw v5))]) (st' := [.int ((yw v2) + (1 : Int32)), .int (((yw v2) - (yw x5)) + (1 : Int32)), .ref x4, .ref x2, .int (yw v4)]) rfl ?_
        refine xZ.eqs (lv2 := [(6, .ref x2), (0, .ref v0), (2, .int (yw v2)), (3, .int (yw v3)), (4, .int (yw v4)), (5, .int (yw v5))]) (st2 := [.int (yw (v2 + 1)), .int (yw ((v2 - x5) + 1)), .ref x4, .ref x2, .int (yw v4)]) rfl (by simp only [yl_lit, yL_lit, yw_add, yw_sub, yw_mul, yw_neg, yl_add, yl_sub, yl_mul, cj_and, cj_or, cj_xor, cj_shl, cj_shr, cj_ushr, cj_div, cj_i2c, cj_i2b, cj_dc, ck_and, ck_or, ck_xor, ck_shl, ck_shr, ck_ushr, ck_i2l, ck_l2i, ck_cmp]) ?_
        refine xZ.callv (κ := oJ) (av := [.ref x4, .int (yw ((v2 - x5) + 1)), .int (yw (v2 + 1))]) (rest := [.int (yw v4)]) (st' := fun x6 => [.int (yw x6), .int (yw v4)]) (k0 := x2) (me := xm157) hP_157 rfl (Or.inl rfl) ⟨rfl, by decide⟩ rfl rfl (Nat.le_of_ble_eq_true rfl) (by decide) hP_116 (Nat.le_of_ble_eq_true rfl) (fun _ => rfl) (k_f_Series_countBegins O f (d + 0) x2 x4 ((v2 - x5) + 1) (v2 + 1) M2) (fun x6 M3 => ?_)
        refine xZ.adv (me := xm157) hP_157 4 (pc' := 27) (lv' := [(5, .int ((yw v5) + (1 : Int32))), (4, .int ((yw v4) + (yw x6))), (6, .ref x2), (0, .ref v0), (2, .int (yw v2)), (3, .int (yw v3))]) (st' := []) rfl ?_
        refine xZ.eqs (lv2 := [(5, .int (yw (v5 + 1))), (4, .int (yw (v4 + x6))), (6, .ref x2), (0, .ref v0), (2, .int (yw v2)), (3, .int (yw v3))]) (st2 := []) (by simp only [yl_lit, yL_lit, yw_add, yw_sub, yw_mul, yw_neg, yl_add, yl_sub, yl_mul, cj_and, cj_or, cj_xor, cj_shl, cj_shr, cj_ushr, cj_div, cj_i2c, cj_i2b, cj_dc, ck_and, ck_or, ck_xor, ck_shl, ck_shr, ck_ushr, ck_i2l, ck_l2i, ck_cmp]) rfl ?_
        exact xZ.sub (xsc (.tail _ (.tail _ (.tail _ (.head _)))) (xsc (.tail _ (.tail _ (.tail _ (.tail _ (.head _))))) (xsc (.tail _ (.tail _ (.tail _ (.tail _ (.tail _ (.head _)))))) (xsc (.tail _ (.head _)) (xsc (.head _) xsn))))) (show ([5, 4, 6, 0, 2, 3] : List Nat).Nodup from by decide) (ih v0 v2 v3 (v4 + x6) (v5 + 1) M3)
      · skip
        refine xZ.adv (me := xm157) hP_157 2 (pc' := 27) (lv' := [(5, .int ((yw v5) + (1 : Int32))), (6, .ref x2), (0, .ref v0), (2, .int (yw v2)), (3, .int (yw v3)), (4, .int (yw v4))]) (st' := []) rfl ?_
        refine xZ.eqs (lv2 := [(5, .int (yw (v5 + 1))), (6, .ref x2), (0, .ref v0), (2, .int (yw v2)), (3, .int (yw v3)), (4, .int (yw v4))]) (st2 := []) (by simp only [yl_lit, yL_lit, yw_add, yw_sub, yw_mul, yw_neg, yl_add, yl_sub, yl_mul, cj_and, cj_or, cj_xor, cj_shl, cj_shr, cj_ushr, cj_div, cj_i2c, cj_i2b, cj_dc, ck_and, ck_or, ck_xor, ck_shl, ck_shr, ck_ushr, ck_i2l, ck_l2i, ck_cmp]) rfl ?_
        exact xZ.sub (xsc (.tail _ (.tail _ (.head _))) (xsc (.tail _ (.tail _ (.tail _ (.head _)))) (xsc (.tail _ (.tail _ (.tail _ (.tail _ (.head _))))) (xsc (.tail _ (.tail _ (.tail _ (.tail _ (.tail _ (.head _)))))) (xsc (.head _) xsn))))) (show ([5, 6, 0, 2, 3, 4] : List Nat).Nodup from by decide) (ih v0 v2 v3 v4 (v5 + 1) M1)
def f_Calendarhall_datesAt (O : Nat → Option va_E) (f : Nat) (v0 : Nat) (v1 : Int) (v2 : Int) (M : xM) : Option (Int × xM) :=
  (isO O M v0 12).bind fun _ =>
  xcl (f_Calendarhall_personNumbered O f v0 v1 M) fun x1 M1 =>
  xcl (f_Calendarhall_needMinute O f v2 M1) fun _ M2 =>
  (gR O M2 v0 12 0).bind fun x3 =>
  (isO O M2 x3 4).bind fun _ =>
  xcl (f_Hall_seriesOf O f x3 (jshl 1 (jand v1 31)) M2) fun x4 M3 =>
  f_Calendarhall_datesAt_27 O f f v0 v2 x4 0 0 M3
set_option maxRecDepth 20000 in
theorem k_f_Calendarhall_datesAt (O : Nat → Option va_E) (f d : Nat) (v0 : Nat) (v1 : Int) (v2 : Int) (M : xM) : xZ oJ O (d + 6) 157 0 [(0, .ref v0), (1, .int (yw v1)), (2, .int (yw v2))] [] M (f_Calendarhall_datesAt O f v0 v1 v2 M) := by
  unfold f_Calendarhall_datesAt
  refine xZ.adv (me := xm157) hP_157 2 (pc' := 2) (lv' := [(0, .ref v0), (1, .int (yw v1)), (2, .int (yw v2))]) (st' := [.int (yw v1), .ref v0]) rfl ?_
  refine xZ.callv (κ := oR) (av := [.int (yw v1)]) (rest := []) (st' := fun x1 => [.ref x1]) (k0 := v0) (me := xm157) hP_157 rfl (Or.inl rfl) ⟨rfl, by decide⟩ rfl rfl (Nat.le_of_ble_eq_true rfl) (by decide) hP_148 (Nat.le_of_ble_eq_true rfl) (fun _ => rfl) (k_f_Calendarhall_personNumbered O f (d + 4) v0 v1 M) (fun x1 M1 => ?_)
  refine xZ.adv (me := xm157) hP_157 2 (pc' := 7) (lv' := [(0, .ref v0), (1, .int (yw v1)), (2, .int (yw v2))]) (st' := [.int (yw v2)]) rfl ?_
  refine xZ.calls (κ := oU) (av := [.int (yw v2)]) (rest := []) (st' := fun _ => []) (me := xm157) hP_157 rfl rfl rfl (Nat.le_of_ble_eq_true rfl) (by decide) hP_115 (Nat.le_of_ble_eq_true rfl) (fun _ => rfl) (k_f_Calendarhall_needMinute O f (d + 5) v2 M1) (fun _ M2 => ?_)
  refine xZ.adv (me := xm157) hP_157 1 (pc' := 11) (lv' := [(0, .ref v0), (1, .int (yw v1)), (2, .int (yw v2))]) (st' := [.ref v0]) rfl ?_
  refine xZ.k_gR (me := xm157) hP_157 rfl (fun x3 => ?_)
  refine xZ.adv (me := xm157) hP_157 3 (pc' := 17) (lv' := [(0, .ref v0), (1, .int (yw v1)), (2, .int (yw v2))]) (st' := [.int ((1 : Int32) <<< ((yw v1) &&& 31)), .ref x3]) rfl ?_
  refine xZ.eqs (lv2 := [(0, .ref v0), (1, .int (yw v1)), (2, .int (yw v2))]) (st2 := [.int (yw (jshl 1 (jand v1 31))), .ref x3]) rfl (by simp only [yl_lit, yL_lit, yw_add, yw_sub, yw_mul, yw_neg, yl_add, yl_sub, yl_mul, cj_and, cj_or, cj_xor, cj_shl, cj_shr, cj_ushr, cj_div, cj_i2c, cj_i2b, cj_dc, ck_and, ck_or, ck_xor, ck_shl, ck_shr, ck_ushr, ck_i2l, ck_l2i, ck_cmp]) ?_
  refine xZ.callv (κ := oJ) (av := [.int (yw (jshl 1 (jand v1 31)))]) (rest := []) (st' := fun x4 => [.int (yw x4)]) (k0 := x3) (me := xm157) hP_157 rfl (Or.inl rfl) ⟨rfl, by decide⟩ rfl rfl (Nat.le_of_ble_eq_true rfl) (by decide) hP_158 (Nat.le_of_ble_eq_true rfl) (fun _ => rfl) (k_f_Hall_seriesOf O f (d + 4) x3 (jshl 1 (jand v1 31)) M2) (fun x4 M3 => ?_)
  refine xZ.adv (me := xm157) hP_157 5 (pc' := 27) (lv' := [(5, .int (0 : Int32)), (4, .int (0 : Int32)), (3, .int (yw x4)), (0, .ref v0), (1, .int (yw v1)), (2, .int (yw v2))]) (st' := []) rfl ?_
  refine xZ.eqs (lv2 := [(5, .int (yw 0)), (4, .int (yw 0)), (3, .int (yw x4)), (0, .ref v0), (1, .int (yw v1)), (2, .int (yw v2))]) (st2 := []) (by simp only [yl_lit, yL_lit, yw_add, yw_sub, yw_mul, yw_neg, yl_add, yl_sub, yl_mul, cj_and, cj_or, cj_xor, cj_shl, cj_shr, cj_ushr, cj_div, cj_i2c, cj_i2b, cj_dc, ck_and, ck_or, ck_xor, ck_shl, ck_shr, ck_ushr, ck_i2l, ck_l2i, ck_cmp]) rfl ?_
  exact xZ.sub (xsc (.tail _ (.tail _ (.tail _ (.head _)))) (xsc (.tail _ (.tail _ (.tail _ (.tail _ (.tail _ (.head _)))))) (xsc (.tail _ (.tail _ (.head _))) (xsc (.tail _ (.head _)) (xsc (.head _) xsn))))) (show ([5, 4, 3, 0, 1, 2] : List Nat).Nodup from by decide) (k_f_Calendarhall_datesAt_27 O f d f v0 v2 x4 0 0 M3)
def f_Law_isWork (O : Nat → Option va_E) (f : Nat) (v0 : Nat) (v1 : Int) (M : xM) : Option (Int × xM) :=
  (aJ O M v0 1).bind fun x1 =>
  if yw (jand (jshr x1 (jand (((jdiv v1 1440) + 5) - (jdiv ((jdiv v1 1440) + 5) 7) * 7) 31)) 1) = yw 1 then (
    (aJ O M v0 2).bind fun x2 =>
    if yw (v1 - (jdiv v1 1440) * 1440) < yw x2 then (
      some (0, M)
    ) else
    (aJ O M v0 3).bind fun x3 =>
    if yw x3 ≤ yw (v1 - (jdiv v1 1440) * 1440) then (
      some (0, M)
    ) else
    some (1, M)
  ) else
  some (0, M)
set_option maxRecDepth 20000 in
theorem k_f_Law_isWork (O : Nat → Option va_E) (f d : Nat) (v0 : Nat) (v1 : Int) (M : xM) : xZ oJ O (d + 0) 160 0 [(0, .ref v0), (1, .int (yw v1))] [] M (f_Law_isWork O f v0 v1 M) := by
  unfold f_Law_isWork
  refine xZ.adv (me := xm160) hP_160 2 (pc' := 2) (lv' := [(0, .ref v0), (1, .int (yw v1))]) (st' := [.int (1 : Int32), .ref v0]) rfl ?_
  refine xZ.eqs (lv2 := [(0, .ref v0), (1, .int (yw v1))]) (st2 := [.int (yw 1), .ref v0]) rfl (by simp only [yl_lit, yL_lit, yw_add, yw_sub, yw_mul, yw_neg, yl_add, yl_sub, yl_mul, cj_and, cj_or, cj_xor, cj_shl, cj_shr, cj_ushr, cj_div, cj_i2c, cj_i2b, cj_dc, ck_and, ck_or, ck_xor, ck_shl, ck_shr, ck_ushr, ck_i2l, ck_l2i, ck_cmp]) ?_
  refine xZ.k_aJ (me := xm160) hP_160 rfl (fun x1 => ?_)
  refine xZ.adv (me := xm160) hP_160 11 (pc' := 17) (lv' := [(0, .ref v0), (1, .int (yw v1))]) (st' := [.int (1 : Int32), .int (((yw x1) >>> (((((yw v1) / (1440 : Int32)) + (5 : Int32)) - (((yw v1) / (1440 : Int32)) + (5 : Int32)) / (7 : Int32) * (7 : Int32)) &&& 31)) &&& (1 : Int32))]) rfl ?_
  refine xZ.eqs (lv2 := [(0, .ref v0), (1, .int (yw v1))]) (st2 := [.int (yw 1), .int (yw (jand (jshr x1 (jand (((jdiv v1 1440) + 5) - (jdiv ((jdiv v1 1440) + 5) 7) * 7) 31)) 1))]) rfl (by simp only [yl_lit, yL_lit, yw_add, yw_sub, yw_mul, yw_neg, yl_add, yl_sub, yl_mul, cj_and, cj_or, cj_xor, cj_shl, cj_shr, cj_ushr, cj_div, cj_i2c, cj_i2b, cj_dc, ck_and, ck_or, ck_xor, ck_shl, ck_shr, ck_ushr, ck_i2l, ck_l2i, ck_cmp]) ?_
  refine xZ.jc_ne (me := xm160) hP_160 rfl (fun h1 => ?_) (fun h1 => ?_)
  · skip
    refine xZ.adv (me := xm160) hP_160 5 (pc' := 27) (lv' := [(0, .ref v0), (1, .int (yw v1))]) (st' := [.int (2 : Int32), .ref v0, .int ((yw v1) - (yw v1) / (1440 : Int32) * (1440 : Int32))]) rfl ?_
    refine xZ.eqs (lv2 := [(0, .ref v0), (1, .int (yw v1))]) (st2 := [.int (yw 2), .ref v0, .int (yw (v1 - (jdiv v1 1440) * 1440))]) rfl (by simp only [yl_lit, yL_lit, yw_add, yw_sub, yw_mul, yw_neg, yl_add, yl_sub, yl_mul, cj_and, cj_or, cj_xor, cj_shl, cj_shr, cj_ushr, cj_div, cj_i2c, cj_i2b, cj_dc, ck_and, ck_or, ck_xor, ck_shl, ck_shr, ck_ushr, ck_i2l, ck_l2i, ck_cmp]) ?_
    refine xZ.k_aJ (me := xm160) hP_160 rfl (fun x2 => ?_)
    refine xZ.jc_lt (me := xm160) hP_160 rfl (fun h2 => ?_) (fun h2 => ?_)
    · skip
      refine xZ.adv (me := xm160) hP_160 1 (pc' := 47) (lv' := [(0, .ref v0), (1, .int (yw v1))]) (st' := [.int (0 : Int32)]) rfl ?_
      refine xZ.eqs (lv2 := [(0, .ref v0), (1, .int (yw v1))]) (st2 := [.int (yw 0)]) rfl (by simp only [yl_lit, yL_lit, yw_add, yw_sub, yw_mul, yw_neg, yl_add, yl_sub, yl_mul, cj_and, cj_or, cj_xor, cj_shl, cj_shr, cj_ushr, cj_div, cj_i2c, cj_i2b, cj_dc, ck_and, ck_or, ck_xor, ck_shl, ck_shr, ck_ushr, ck_i2l, ck_l2i, ck_cmp]) ?_
      exact xZ.jrete (me := xm160) hP_160 rfl rfl rfl
    · skip
      refine xZ.adv (me := xm160) hP_160 5 (pc' := 38) (lv' := [(0, .ref v0), (1, .int (yw v1))]) (st' := [.int (3 : Int32), .ref v0, .int ((yw v1) - (yw v1) / (1440 : Int32) * (1440 : Int32))]) rfl ?_
      refine xZ.eqs (lv2 := [(0, .ref v0), (1, .int (yw v1))]) (st2 := [.int (yw 3), .ref v0, .int (yw (v1 - (jdiv v1 1440) * 1440))]) rfl (by simp only [yl_lit, yL_lit, yw_add, yw_sub, yw_mul, yw_neg, yl_add, yl_sub, yl_mul, cj_and, cj_or, cj_xor, cj_shl, cj_shr, cj_ushr, cj_div, cj_i2c, cj_i2b, cj_dc, ck_and, ck_or, ck_xor, ck_shl, ck_shr, ck_ushr, ck_i2l, ck_l2i, ck_cmp]) ?_
      refine xZ.k_aJ (me := xm160) hP_160 rfl (fun x3 => ?_)
      refine xZ.jc_ge (me := xm160) hP_160 rfl (fun h3 => ?_) (fun h3 => ?_)
      · skip
        refine xZ.adv (me := xm160) hP_160 1 (pc' := 47) (lv' := [(0, .ref v0), (1, .int (yw v1))]) (st' := [.int (0 : Int32)]) rfl ?_
        refine xZ.eqs (lv2 := [(0, .ref v0), (1, .int (yw v1))]) (st2 := [.int (yw 0)]) rfl (by simp only [yl_lit, yL_lit, yw_add, yw_sub, yw_mul, yw_neg, yl_add, yl_sub, yl_mul, cj_and, cj_or, cj_xor, cj_shl, cj_shr, cj_ushr, cj_div, cj_i2c, cj_i2b, cj_dc, ck_and, ck_or, ck_xor, ck_shl, ck_shr, ck_ushr, ck_i2l, ck_l2i, ck_cmp]) ?_
        exact xZ.jrete (me := xm160) hP_160 rfl rfl rfl
      · skip
        refine xZ.adv (me := xm160) hP_160 2 (pc' := 47) (lv' := [(0, .ref v0), (1, .int (yw v1))]) (st' := [.int (1 : Int32)]) rfl ?_
        refine xZ.eqs (lv2 := [(0, .ref v0), (1, .int (yw v1))]) (st2 := [.int (yw 1)]) rfl (by simp only [yl_lit, yL_lit, yw_add, yw_sub, yw_mul, yw_neg, yl_add, yl_sub, yl_mul, cj_and, cj_or, cj_xor, cj_shl, cj_shr, cj_ushr, cj_div, cj_i2c, cj_i2b, cj_dc, ck_and, ck_or, ck_xor, ck_shl, ck_shr, ck_ushr, ck_i2l, ck_l2i, ck_cmp]) ?_
        exact xZ.jrete (me := xm160) hP_160 rfl rfl rfl
  · skip
    refine xZ.adv (me := xm160) hP_160 1 (pc' := 47) (lv' := [(0, .ref v0), (1, .int (yw v1))]) (st' := [.int (0 : Int32)]) rfl ?_
    refine xZ.eqs (lv2 := [(0, .ref v0), (1, .int (yw v1))]) (st2 := [.int (yw 0)]) rfl (by simp only [yl_lit, yL_lit, yw_add, yw_sub, yw_mul, yw_neg, yl_add, yl_sub, yl_mul, cj_and, cj_or, cj_xor, cj_shl, cj_shr, cj_ushr, cj_div, cj_i2c, cj_i2b, cj_dc, ck_and, ck_or, ck_xor, ck_shl, ck_shr, ck_ushr, ck_i2l, ck_l2i, ck_cmp]) ?_
    exact xZ.jrete (me := xm160) hP_160 rfl rfl rfl
def f_Dates_clear (O : Nat → Option va_E) (f : Nat) (v0 : Nat) (M : xM) : Option (Unit × xM) :=
  (pJ M v0 2 0 0).bind fun M1 =>
  some ((), M1)
set_option maxRecDepth 20000 in
theorem k_f_Dates_clear (O : Nat → Option va_E) (f d : Nat) (v0 : Nat) (M : xM) : xZ oU O (d + 0) 163 0 [(0, .ref v0)] [] M (f_Dates_clear O f v0 M) := by
  unfold f_Dates_clear
  refine xZ.adv (me := xm163) hP_163 2 (pc' := 2) (lv' := [(0, .ref v0)]) (st' := [.int (0 : Int32), .ref v0]) rfl ?_
  refine xZ.eqs (lv2 := [(0, .ref v0)]) (st2 := [.int (yw 0), .ref v0]) rfl (by simp only [yl_lit, yL_lit, yw_add, yw_sub, yw_mul, yw_neg, yl_add, yl_sub, yl_mul, cj_and, cj_or, cj_xor, cj_shl, cj_shr, cj_ushr, cj_div, cj_i2c, cj_i2b, cj_dc, ck_and, ck_or, ck_xor, ck_shl, ck_shr, ck_ushr, ck_i2l, ck_l2i, ck_cmp]) ?_
  refine xZ.k_pJ (me := xm163) hP_163 rfl (fun M1 => ?_)
  exact xZ.retu (me := xm163) hP_163 rfl rfl
def f_Dates_putLength (O : Nat → Option va_E) (f : Nat) (v0 : Nat) (v1 : Int) (v2 : Int) (M : xM) : Option (Unit × xM) :=
  (gR O M v0 2 2).bind fun x1 =>
  (wJ M x1 (jand v1 15) v2).bind fun M1 =>
  some ((), M1)
set_option maxRecDepth 20000 in
theorem k_f_Dates_putLength (O : Nat → Option va_E) (f d : Nat) (v0 : Nat) (v1 : Int) (v2 : Int) (M : xM) : xZ oU O (d + 0) 165 0 [(0, .ref v0), (1, .int (yw v1)), (2, .int (yw v2))] [] M (f_Dates_putLength O f v0 v1 v2 M) := by
  unfold f_Dates_putLength
  refine xZ.adv (me := xm165) hP_165 1 (pc' := 1) (lv' := [(0, .ref v0), (1, .int (yw v1)), (2, .int (yw v2))]) (st' := [.ref v0]) rfl ?_
  refine xZ.k_gR (me := xm165) hP_165 rfl (fun x1 => ?_)
  refine xZ.adv (me := xm165) hP_165 4 (pc' := 9) (lv' := [(0, .ref v0), (1, .int (yw v1)), (2, .int (yw v2))]) (st' := [.int (yw v2), .int ((yw v1) &&& (15 : Int32)), .ref x1]) rfl ?_
  refine xZ.eqs (lv2 := [(0, .ref v0), (1, .int (yw v1)), (2, .int (yw v2))]) (st2 := [.int (yw v2), .int (yw (jand v1 15)), .ref x1]) rfl (by simp only [yl_lit, yL_lit, yw_add, yw_sub, yw_mul, yw_neg, yl_add, yl_sub, yl_mul, cj_and, cj_or, cj_xor, cj_shl, cj_shr, cj_ushr, cj_div, cj_i2c, cj_i2b, cj_dc, ck_and, ck_or, ck_xor, ck_shl, ck_shr, ck_ushr, ck_i2l, ck_l2i, ck_cmp]) ?_
  refine xZ.k_wJ (me := xm165) hP_165 rfl (fun M1 => ?_)
  exact xZ.retu (me := xm165) hP_165 rfl rfl
def f_Dates_rowAt_22 (O : Nat → Option va_E) (f : Nat)  (M : xM) : Option (Int × xM) :=
  some (0, M)
set_option maxRecDepth 20000 in
theorem k_f_Dates_rowAt_22 (O : Nat → Option va_E) (f d : Nat)  (M : xM) : xZ oK O (d + 0) 167 22 [] [] M (f_Dates_rowAt_22 O f  M) := by
  unfold f_Dates_rowAt_22
  refine xZ.adv (me := xm167) hP_167 1 (pc' := 23) (lv' := []) (st' := [.long (0 : Int64)]) rfl ?_
  refine xZ.eqs (lv2 := []) (st2 := [.long (yl 0)]) rfl (by simp only [yl_lit, yL_lit, yw_add, yw_sub, yw_mul, yw_neg, yl_add, yl_sub, yl_mul, cj_and, cj_or, cj_xor, cj_shl, cj_shr, cj_ushr, cj_div, cj_i2c, cj_i2b, cj_dc, ck_and, ck_or, ck_xor, ck_shl, ck_shr, ck_ushr, ck_i2l, ck_l2i, ck_cmp]) ?_
  exact xZ.jretl (me := xm167) hP_167 rfl rfl
def f_Dates_rowAt (O : Nat → Option va_E) (f : Nat) (v0 : Nat) (v1 : Int) (M : xM) : Option (Int × xM) :=
  if yw v1 < yw 0 then (
    f_Dates_rowAt_22 O f M
  ) else
  (gR O M v0 2 1).bind fun x1 =>
  (aJN O M x1).bind fun x2 =>
  if yw x2 ≤ yw v1 then (
    f_Dates_rowAt_22 O f M
  ) else
  (gR O M v0 2 1).bind fun x3 =>
  (aK O M x3 v1).bind fun x4 =>
  some (x4, M)
set_option maxRecDepth 20000 in
theorem k_f_Dates_rowAt (O : Nat → Option va_E) (f d : Nat) (v0 : Nat) (v1 : Int) (M : xM) : xZ oK O (d + 0) 167 0 [(0, .ref v0), (1, .int (yw v1))] [] M (f_Dates_rowAt O f v0 v1 M) := by
  unfold f_Dates_rowAt
  refine xZ.adv (me := xm167) hP_167 1 (pc' := 1) (lv' := [(0, .ref v0), (1, .int (yw v1))]) (st' := [.int (yw v1)]) rfl ?_
  refine xZ.jf_lt (me := xm167) hP_167 rfl (fun h1 => ?_) (fun h1 => ?_)
  · skip
    exact xZ.sub xsn (show ([0, 1] : List Nat).Nodup from by decide) (k_f_Dates_rowAt_22 O f d M)
  · skip
    refine xZ.adv (me := xm167) hP_167 2 (pc' := 6) (lv' := [(0, .ref v0), (1, .int (yw v1))]) (st' := [.ref v0, .int (yw v1)]) rfl ?_
    refine xZ.k_gR (me := xm167) hP_167 rfl (fun x1 => ?_)
    refine xZ.k_aJN (me := xm167) hP_167 rfl (fun x2 => ?_)
    refine xZ.jc_ge (me := xm167) hP_167 rfl (fun h2 => ?_) (fun h2 => ?_)
    · skip
      exact xZ.sub xsn (show ([0, 1] : List Nat).Nodup from by decide) (k_f_Dates_rowAt_22 O f d M)
    · skip
      refine xZ.adv (me := xm167) hP_167 1 (pc' := 14) (lv' := [(0, .ref v0), (1, .int (yw v1))]) (st' := [.ref v0]) rfl ?_
      refine xZ.k_gR (me := xm167) hP_167 rfl (fun x3 => ?_)
      refine xZ.adv (me := xm167) hP_167 1 (pc' := 18) (lv' := [(0, .ref v0), (1, .int (yw v1))]) (st' := [.int (yw v1), .ref x3]) rfl ?_
      refine xZ.k_aK (me := xm167) hP_167 rfl (fun x4 => ?_)
      refine xZ.adv (me := xm167) hP_167 1 (pc' := 23) (lv' := [(0, .ref v0), (1, .int (yw v1))]) (st' := [.long (yl x4)]) rfl ?_
      exact xZ.jretl (me := xm167) hP_167 rfl rfl
def f_Dates_add_79 (O : Nat → Option va_E) (f : Nat) (v0 : Nat) (v1 : Int) (v3 : Int) (M : xM) : Option (Unit × xM) :=
  (gR O M v0 2 1).bind fun x1 =>
  (gR O M v0 2 1).bind fun x2 =>
  (gJ O M v0 2 0).bind fun x3 =>
  (cpJ O M x1 v3 x2 (v3 + 1) (x3 - v3)).bind fun M1 =>
  (gR O M1 v0 2 1).bind fun x4 =>
  (wK M1 x4 v3 v1).bind fun M2 =>
  (gJ O M2 v0 2 0).bind fun x5 =>
  (pJ M2 v0 2 0 (x5 + 1)).bind fun M3 =>
  some ((), M3)
set_option maxRecDepth 20000 in
theorem k_f_Dates_add_79 (O : Nat → Option va_E) (f d : Nat) (v0 : Nat) (v1 : Int) (v3 : Int) (M : xM) : xZ oU O (d + 1) 166 79 [(0, .ref v0), (1, .long (yl v1)), (3, .int (yw v3))] [] M (f_Dates_add_79 O f v0 v1 v3 M) := by
  unfold f_Dates_add_79
  refine xZ.adv (me := xm166) hP_166 1 (pc' := 80) (lv' := [(0, .ref v0), (1, .long (yl v1)), (3, .int (yw v3))]) (st' := [.ref v0]) rfl ?_
  refine xZ.k_gR (me := xm166) hP_166 rfl (fun x1 => ?_)
  refine xZ.adv (me := xm166) hP_166 2 (pc' := 85) (lv' := [(0, .ref v0), (1, .long (yl v1)), (3, .int (yw v3))]) (st' := [.ref v0, .int (yw v3), .ref x1]) rfl ?_
  refine xZ.k_gR (me := xm166) hP_166 rfl (fun x2 => ?_)
  refine xZ.adv (me := xm166) hP_166 4 (pc' := 92) (lv' := [(0, .ref v0), (1, .long (yl v1)), (3, .int (yw v3))]) (st' := [.ref v0, .int ((yw v3) + (1 : Int32)), .ref x2, .int (yw v3), .ref x1]) rfl ?_
  refine xZ.eqs (lv2 := [(0, .ref v0), (1, .long (yl v1)), (3, .int (yw v3))]) (st2 := [.ref v0, .int (yw (v3 + 1)), .ref x2, .int (yw v3), .ref x1]) rfl (by simp only [yl_lit, yL_lit, yw_add, yw_sub, yw_mul, yw_neg, yl_add, yl_sub, yl_mul, cj_and, cj_or, cj_xor, cj_shl, cj_shr, cj_ushr, cj_div, cj_i2c, cj_i2b, cj_dc, ck_and, ck_or, ck_xor, ck_shl, ck_shr, ck_ushr, ck_i2l, ck_l2i, ck_cmp]) ?_
  refine xZ.k_gJ (me := xm166) hP_166 rfl (fun x3 => ?_)
  refine xZ.adv (me := xm166) hP_166 2 (pc' := 97) (lv' := [(0, .ref v0), (1, .long (yl v1)), (3, .int (yw v3))]) (st' := [.int ((yw x3) - (yw v3)), .int (yw (v3 + 1)), .ref x2, .int (yw v3), .ref x1]) rfl ?_
  refine xZ.eqs (lv2 := [(0, .ref v0), (1, .long (yl v1)), (3, .int (yw v3))]) (st2 := [.int (yw (x3 - v3)), .int (yw (v3 + 1)), .ref x2, .int (yw v3), .ref x1]) rfl (by simp only [yl_lit, yL_lit, yw_add, yw_sub, yw_mul, yw_neg, yl_add, yl_sub, yl_mul, cj_and, cj_or, cj_xor, cj_shl, cj_shr, cj_ushr, cj_div, cj_i2c, cj_i2b, cj_dc, ck_and, ck_or, ck_xor, ck_shl, ck_shr, ck_ushr, ck_i2l, ck_l2i, ck_cmp]) ?_
  refine xZ.k_cpJ (me := xm166) hP_166 rfl (Nat.le_of_ble_eq_true rfl) (fun M1 => ?_)
  refine xZ.adv (me := xm166) hP_166 1 (pc' := 101) (lv' := [(0, .ref v0), (1, .long (yl v1)), (3, .int (yw v3))]) (st' := [.ref v0]) rfl ?_
  refine xZ.k_gR (me := xm166) hP_166 rfl (fun x4 => ?_)
  refine xZ.adv (me := xm166) hP_166 2 (pc' := 106) (lv' := [(0, .ref v0), (1, .long (yl v1)), (3, .int (yw v3))]) (st' := [.long (yl v1), .int (yw v3), .ref x4]) rfl ?_
  refine xZ.k_wK (me := xm166) hP_166 rfl (fun M2 => ?_)
  refine xZ.adv (me := xm166) hP_166 2 (pc' := 109) (lv' := [(0, .ref v0), (1, .long (yl v1)), (3, .int (yw v3))]) (st' := [.ref v0, .ref v0]) rfl ?_
  refine xZ.k_gJ (me := xm166) hP_166 rfl (fun x5 => ?_)
  refine xZ.adv (me := xm166) hP_166 2 (pc' := 114) (lv' := [(0, .ref v0), (1, .long (yl v1)), (3, .int (yw v3))]) (st' := [.int ((yw x5) + (1 : Int32)), .ref v0]) rfl ?_
  refine xZ.eqs (lv2 := [(0, .ref v0), (1, .long (yl v1)), (3, .int (yw v3))]) (st2 := [.int (yw (x5 + 1)), .ref v0]) rfl (by simp only [yl_lit, yL_lit, yw_add, yw_sub, yw_mul, yw_neg, yl_add, yl_sub, yl_mul, cj_and, cj_or, cj_xor, cj_shl, cj_shr, cj_ushr, cj_div, cj_i2c, cj_i2b, cj_dc, ck_and, ck_or, ck_xor, ck_shl, ck_shr, ck_ushr, ck_i2l, ck_l2i, ck_cmp]) ?_
  refine xZ.k_pJ (me := xm166) hP_166 rfl (fun M3 => ?_)
  exact xZ.retu (me := xm166) hP_166 rfl rfl
def f_Dates_add_29 (O : Nat → Option va_E) (f : Nat) : Nat → Nat → Int → Int → Int → Int → xM → Option (Unit × xM)
  | 0, _, _, _, _, _, _ => none
  | n + 1, v0, v1, v3, v4, v5, M =>
    if yw 32 ≤ yw v5 then (
      f_Dates_add_79 O f v0 v1 v3 M
    ) else
    if yw v4 ≤ yw v3 then (
      f_Dates_add_79 O f v0 v1 v3 M
    ) else
    (isO O M v0 2).bind fun _ =>
    xcl (f_Dates_rowAt O f v0 (jdiv (v3 + v4) 2) M) fun x1 M1 =>
    if yw 0 < yw (kcmp x1 v1) then (
      f_Dates_add_29 O f n v0 v1 v3 (jdiv (v3 + v4) 2) (v5 + 1) M1
    ) else
    f_Dates_add_29 O f n v0 v1 ((jdiv (v3 + v4) 2) + 1) v4 (v5 + 1) M1
set_option maxRecDepth 20000 in
theorem k_f_Dates_add_29 (O : Nat → Option va_E) (f d : Nat) : ∀ (n : Nat) (v0 : Nat) (v1 : Int) (v3 : Int) (v4 : Int) (v5 : Int) (M : xM), xZ oU O (d + 1) 166 29 [(0, .ref v0), (1, .long (yl v1)), (3, .int (yw v3)), (4, .int (yw v4)), (5, .int (yw v5))] [] M (f_Dates_add_29 O f n v0 v1 v3 v4 v5 M) := by
  intro n
  induction n with
  | zero =>
    intro v0 v1 v3 v4 v5 M
    exact xZ.no
  | succ n ih =>
    intro v0 v1 v3 v4 v5 M
    unfold f_Dates_add_29
    refine xZ.adv (me := xm166) hP_166 2 (pc' := 33) (lv' := [(0, .ref v0), (1, .long (yl v1)), (3, .int (yw v3)), (4, .int (yw v4)), (5, .int (yw v5))]) (st' := [.int (32 : Int32), .int (yw v5)]) rfl ?_
    refine xZ.eqs (lv2 := [(0, .ref v0), (1, .long (yl v1)), (3, .int (yw v3)), (4, .int (yw v4)), (5, .int (yw v5))]) (st2 := [.int (yw 32), .int (yw v5)]) rfl (by simp only [yl_lit, yL_lit, yw_add, yw_sub, yw_mul, yw_neg, yl_add, yl_sub, yl_mul, cj_and, cj_or, cj_xor, cj_shl, cj_shr, cj_ushr, cj_div, cj_i2c, cj_i2b, cj_dc, ck_and, ck_or, ck_xor, ck_shl, ck_shr, ck_ushr, ck_i2l, ck_l2i, ck_cmp]) ?_
    refine xZ.jc_ge (me := xm166) hP_166 rfl (fun h1 => ?_) (fun h1 => ?_)
    · skip
      exact xZ.sub (xsc (.head _) (xsc (.tail _ (.head _)) (xsc (.tail _ (.tail _ (.head _))) xsn))) (show ([0, 1, 3, 4, 5] : List Nat).Nodup from by decide) (k_f_Dates_add_79 O f d v0 v1 v3 M)
    · skip
      refine xZ.adv (me := xm166) hP_166 2 (pc' := 39) (lv' := [(0, .ref v0), (1, .long (yl v1)), (3, .int (yw v3)), (4, .int (yw v4)), (5, .int (yw v5))]) (st' := [.int (yw v4), .int (yw v3)]) rfl ?_
      refine xZ.jc_ge (me := xm166) hP_166 rfl (fun h2 => ?_) (fun h2 => ?_)
      · skip
        exact xZ.sub (xsc (.head _) (xsc (.tail _ (.head _)) (xsc (.tail _ (.tail _ (.head _))) xsn))) (show ([0, 1, 3, 4, 5] : List Nat).Nodup from by decide) (k_f_Dates_add_79 O f d v0 v1 v3 M)
      · skip
        refine xZ.adv (me := xm166) hP_166 8 (pc' := 53) (lv' := [(6, .int (((yw v3) + (yw v4)) / (2 : Int32))), (0, .ref v0), (1, .long (yl v1)), (3, .int (yw v3)), (4, .int (yw v4)), (5, .int (yw v5))]) (st' := [.int (((yw v3) + (yw v4)) / (2 : Int32)), .ref v0]) rfl ?_
        refine xZ.eqs (lv2 := [(6, .int (yw (jdiv (v3 + v4) 2))), (0, .ref v0), (1, .long (yl v1)), (3, .int (yw v3)), (4, .int (yw v4)), (5, .int (yw v5))]) (st2 := [.int (yw (jdiv (v3 + v4) 2)), .ref v0]) (by simp only [yl_lit, yL_lit, yw_add, yw_sub, yw_mul, yw_neg, yl_add, yl_sub, yl_mul, cj_and, cj_or, cj_xor, cj_shl, cj_shr, cj_ushr, cj_div, cj_i2c, cj_i2b, cj_dc, ck_and, ck_or, ck_xor, ck_shl, ck_shr, ck_ushr, ck_i2l, ck_l2i, ck_cmp]) (by simp only [yl_lit, yL_lit, yw_add, yw_sub, yw_mul, yw_neg, yl_add, yl_sub, yl_mul, cj_and, cj_or, cj_xor, cj_shl, cj_shr, cj_ushr, cj_div, cj_i2c, cj_i2b, cj_dc, ck_and, ck_or, ck_xor, ck_shl, ck_shr, ck_ushr, ck_i2l, ck_l2i, ck_cmp]) ?_
        refine xZ.callv (κ := oK) (av := [.int (yw (jdiv (v3 + v4) 2))]) (rest := []) (st' := fun x1 => [.long (yl x1)]) (k0 := v0) (me := xm166) hP_166 rfl (Or.inl rfl) ⟨rfl, by decide⟩ rfl rfl (Nat.le_of_ble_eq_true rfl) (by decide) hP_167 (Nat.le_of_ble_eq_true rfl) (fun _ => rfl) (k_f_Dates_rowAt O f (d + 0) v0 (jdiv (v3 + v4) 2) M) (fun x1 M1 => ?_)
        refine xZ.adv (me := xm166) hP_166 2 (pc' := 58) (lv' := [(6, .int (yw (jdiv (v3 + v4) 2))), (0, .ref v0), (1, .long (yl v1)), (3, .int (yw v3)), (4, .int (yw v4)), (5, .int (yw v5))]) (st' := [.int (lg_cmp (yl x1) (yl v1))]) rfl ?_
        refine xZ.eqs (lv2 := [(6, .int (yw (jdiv (v3 + v4) 2))), (0, .ref v0), (1, .long (yl v1)), (3, .int (yw v3)), (4, .int (yw v4)), (5, .int (yw v5))]) (st2 := [.int (yw (kcmp x1 v1))]) rfl (by simp only [yl_lit, yL_lit, yw_add, yw_sub, yw_mul, yw_neg, yl_add, yl_sub, yl_mul, cj_and, cj_or, cj_xor, cj_shl, cj_shr, cj_ushr, cj_div, cj_i2c, cj_i2b, cj_dc, ck_and, ck_or, ck_xor, ck_shl, ck_shr, ck_ushr, ck_i2l, ck_l2i, ck_cmp]) ?_
        refine xZ.jf_gt (me := xm166) hP_166 rfl (fun h3 => ?_) (fun h3 => ?_)
        · skip
          refine xZ.adv (me := xm166) hP_166 4 (pc' := 29) (lv' := [(5, .int ((yw v5) + (1 : Int32))), (4, .int (yw (jdiv (v3 + v4) 2))), (6, .int (yw (jdiv (v3 + v4) 2))), (0, .ref v0), (1, .long (yl v1)), (3, .int (yw v3))]) (st' := []) rfl ?_
          refine xZ.eqs (lv2 := [(5, .int (yw (v5 + 1))), (4, .int (yw (jdiv (v3 + v4) 2))), (6, .int (yw (jdiv (v3 + v4) 2))), (0, .ref v0), (1, .long (yl v1)), (3, .int (yw v3))]) (st2 := []) (by simp only [yl_lit, yL_lit, yw_add, yw_sub, yw_mul, yw_neg, yl_add, yl_sub, yl_mul, cj_and, cj_or, cj_xor, cj_shl, cj_shr, cj_ushr, cj_div, cj_i2c, cj_i2b, cj_dc, ck_and, ck_or, ck_xor, ck_shl, ck_shr, ck_ushr, ck_i2l, ck_l2i, ck_cmp]) rfl ?_
          exact xZ.sub (xsc (.tail _ (.tail _ (.tail _ (.head _)))) (xsc (.tail _ (.tail _ (.tail _ (.tail _ (.head _))))) (xsc (.tail _ (.tail _ (.tail _ (.tail _ (.tail _ (.head _)))))) (xsc (.tail _ (.head _)) (xsc (.head _) xsn))))) (show ([5, 4, 6, 0, 1, 3] : List Nat).Nodup from by decide) (ih v0 v1 v3 (jdiv (v3 + v4) 2) (v5 + 1) M1)
        · skip
          refine xZ.adv (me := xm166) hP_166 7 (pc' := 29) (lv' := [(5, .int ((yw v5) + (1 : Int32))), (3, .int ((yw (jdiv (v3 + v4) 2)) + (1 : Int32))), (6, .int (yw (jdiv (v3 + v4) 2))), (0, .ref v0), (1, .long (yl v1)), (4, .int (yw v4))]) (st' := []) rfl ?_
          refine xZ.eqs (lv2 := [(5, .int (yw (v5 + 1))), (3, .int (yw ((jdiv (v3 + v4) 2) + 1))), (6, .int (yw (jdiv (v3 + v4) 2))), (0, .ref v0), (1, .long (yl v1)), (4, .int (yw v4))]) (st2 := []) (by simp only [yl_lit, yL_lit, yw_add, yw_sub, yw_mul, yw_neg, yl_add, yl_sub, yl_mul, cj_and, cj_or, cj_xor, cj_shl, cj_shr, cj_ushr, cj_div, cj_i2c, cj_i2b, cj_dc, ck_and, ck_or, ck_xor, ck_shl, ck_shr, ck_ushr, ck_i2l, ck_l2i, ck_cmp]) rfl ?_
          exact xZ.sub (xsc (.tail _ (.tail _ (.tail _ (.head _)))) (xsc (.tail _ (.tail _ (.tail _ (.tail _ (.head _))))) (xsc (.tail _ (.head _)) (xsc (.tail _ (.tail _ (.tail _ (.tail _ (.tail _ (.head _)))))) (xsc (.head _) xsn))))) (show ([5, 3, 6, 0, 1, 4] : List Nat).Nodup from by decide) (ih v0 v1 ((jdiv (v3 + v4) 2) + 1) v4 (v5 + 1) M1)
def f_Dates_add (O : Nat → Option va_E) (f : Nat) (v0 : Nat) (v1 : Int) (M : xM) : Option (Unit × xM) :=
  (gJ O M v0 2 0).bind fun x1 =>
  if yw x1 < yw 0 then (
    some ((), M)
  ) else
  (gJ O M v0 2 0).bind fun x2 =>
  if yw x2 < yw 320 then (
    (gJ O M v0 2 0).bind fun x3 =>
    f_Dates_add_29 O f f v0 v1 0 x3 0 M
  ) else
  some ((), M)
set_option maxRecDepth 20000 in
theorem k_f_Dates_add (O : Nat → Option va_E) (f d : Nat) (v0 : Nat) (v1 : Int) (M : xM) : xZ oU O (d + 1) 166 0 [(0, .ref v0), (1, .long (yl v1))] [] M (f_Dates_add O f v0 v1 M) := by
  unfold f_Dates_add
  refine xZ.adv (me := xm166) hP_166 1 (pc' := 1) (lv' := [(0, .ref v0), (1, .long (yl v1))]) (st' := [.ref v0]) rfl ?_
  refine xZ.k_gJ (me := xm166) hP_166 rfl (fun x1 => ?_)
  refine xZ.jf_lt (me := xm166) hP_166 rfl (fun h1 => ?_) (fun h1 => ?_)
  · skip
    exact xZ.retu (me := xm166) hP_166 rfl rfl
  · skip
    refine xZ.adv (me := xm166) hP_166 1 (pc' := 8) (lv' := [(0, .ref v0), (1, .long (yl v1))]) (st' := [.ref v0]) rfl ?_
    refine xZ.k_gJ (me := xm166) hP_166 rfl (fun x2 => ?_)
    refine xZ.adv (me := xm166) hP_166 1 (pc' := 14) (lv' := [(0, .ref v0), (1, .long (yl v1))]) (st' := [.int (320 : Int32), .int (yw x2)]) rfl ?_
    refine xZ.eqs (lv2 := [(0, .ref v0), (1, .long (yl v1))]) (st2 := [.int (yw 320), .int (yw x2)]) rfl (by simp only [yl_lit, yL_lit, yw_add, yw_sub, yw_mul, yw_neg, yl_add, yl_sub, yl_mul, cj_and, cj_or, cj_xor, cj_shl, cj_shr, cj_ushr, cj_div, cj_i2c, cj_i2b, cj_dc, ck_and, ck_or, ck_xor, ck_shl, ck_shr, ck_ushr, ck_i2l, ck_l2i, ck_cmp]) ?_
    refine xZ.jc_lt (me := xm166) hP_166 rfl (fun h2 => ?_) (fun h2 => ?_)
    · skip
      refine xZ.adv (me := xm166) hP_166 3 (pc' := 21) (lv' := [(3, .int (0 : Int32)), (0, .ref v0), (1, .long (yl v1))]) (st' := [.ref v0]) rfl ?_
      refine xZ.eqs (lv2 := [(3, .int (yw 0)), (0, .ref v0), (1, .long (yl v1))]) (st2 := [.ref v0]) (by simp only [yl_lit, yL_lit, yw_add, yw_sub, yw_mul, yw_neg, yl_add, yl_sub, yl_mul, cj_and, cj_or, cj_xor, cj_shl, cj_shr, cj_ushr, cj_div, cj_i2c, cj_i2b, cj_dc, ck_and, ck_or, ck_xor, ck_shl, ck_shr, ck_ushr, ck_i2l, ck_l2i, ck_cmp]) rfl ?_
      refine xZ.k_gJ (me := xm166) hP_166 rfl (fun x3 => ?_)
      refine xZ.adv (me := xm166) hP_166 3 (pc' := 29) (lv' := [(5, .int (0 : Int32)), (4, .int (yw x3)), (3, .int (yw 0)), (0, .ref v0), (1, .long (yl v1))]) (st' := []) rfl ?_
      refine xZ.eqs (lv2 := [(5, .int (yw 0)), (4, .int (yw x3)), (3, .int (yw 0)), (0, .ref v0), (1, .long (yl v1))]) (st2 := []) (by simp only [yl_lit, yL_lit, yw_add, yw_sub, yw_mul, yw_neg, yl_add, yl_sub, yl_mul, cj_and, cj_or, cj_xor, cj_shl, cj_shr, cj_ushr, cj_div, cj_i2c, cj_i2b, cj_dc, ck_and, ck_or, ck_xor, ck_shl, ck_shr, ck_ushr, ck_i2l, ck_l2i, ck_cmp]) rfl ?_
      exact xZ.sub (xsc (.tail _ (.tail _ (.tail _ (.head _)))) (xsc (.tail _ (.tail _ (.tail _ (.tail _ (.head _))))) (xsc (.tail _ (.tail _ (.head _))) (xsc (.tail _ (.head _)) (xsc (.head _) xsn))))) (show ([5, 4, 3, 0, 1] : List Nat).Nodup from by decide) (k_f_Dates_add_29 O f d f v0 v1 0 x3 0 M)
    · skip
      exact xZ.retu (me := xm166) hP_166 rfl rfl
def f_Series_addRows_105 (O : Nat → Option va_E) (f : Nat) (K31 : Nat → Nat → Int → Int → Nat → Int → Int → Int → Int → xM → Option (Unit × xM)) (v0 : Nat) (v1 : Nat) (v2 : Int) (v3 : Int) (v4 : Nat) (v5 : Int) (v6 : Int) (v7 : Int) (v8 : Int) (M : xM) : Option (Unit × xM) :=
  (gR O M v0 10 6).bind fun x1 =>
  (isO O M x1 9).bind fun _ =>
  xcl (f_Rule_next O f x1 (v7 + 1) M) fun x2 M1 =>
  K31 v0 v1 v2 v3 v4 v5 v6 x2 (v8 + 1) M1
set_option maxRecDepth 20000 in
theorem k_f_Series_addRows_105 (O : Nat → Option va_E) (f d : Nat) (K31 : Nat → Nat → Int → Int → Nat → Int → Int → Int → Int → xM → Option (Unit × xM)) (hK31 : ∀ (v0 : Nat) (v1 : Nat) (v2 : Int) (v3 : Int) (v4 : Nat) (v5 : Int) (v6 : Int) (v7 : Int) (v8 : Int) M, xZ oU O (d + 5) 164 31 [(0, .ref v0), (1, .ref v1), (2, .int (yw v2)), (3, .int (yw v3)), (4, .ref v4), (5, .int (yw v5)), (6, .int (yw v6)), (7, .int (yw v7)), (8, .int (yw v8))] [] M (K31 v0 v1 v2 v3 v4 v5 v6 v7 v8 M)) (v0 : Nat) (v1 : Nat) (v2 : Int) (v3 : Int) (v4 : Nat) (v5 : Int) (v6 : Int) (v7 : Int) (v8 : Int) (M : xM) : xZ oU O (d + 5) 164 105 [(0, .ref v0), (1, .ref v1), (2, .int (yw v2)), (3, .int (yw v3)), (4, .ref v4), (5, .int (yw v5)), (6, .int (yw v6)), (7, .int (yw v7)), (8, .int (yw v8))] [] M (f_Series_addRows_105 O f K31 v0 v1 v2 v3 v4 v5 v6 v7 v8 M) := by
  unfold f_Series_addRows_105
  refine xZ.adv (me := xm164) hP_164 1 (pc' := 106) (lv' := [(0, .ref v0), (1, .ref v1), (2, .int (yw v2)), (3, .int (yw v3)), (4, .ref v4), (5, .int (yw v5)), (6, .int (yw v6)), (7, .int (yw v7)), (8, .int (yw v8))]) (st' := [.ref v0]) rfl ?_
  refine xZ.k_gR (me := xm164) hP_164 rfl (fun x1 => ?_)
  refine xZ.adv (me := xm164) hP_164 3 (pc' := 113) (lv' := [(0, .ref v0), (1, .ref v1), (2, .int (yw v2)), (3, .int (yw v3)), (4, .ref v4), (5, .int (yw v5)), (6, .int (yw v6)), (7, .int (yw v7)), (8, .int (yw v8))]) (st' := [.int ((yw v7) + (1 : Int32)), .ref x1]) rfl ?_
  refine xZ.eqs (lv2 := [(0, .ref v0), (1, .ref v1), (2, .int (yw v2)), (3, .int (yw v3)), (4, .ref v4), (5, .int (yw v5)), (6, .int (yw v6)), (7, .int (yw v7)), (8, .int (yw v8))]) (st2 := [.int (yw (v7 + 1)), .ref x1]) rfl (by simp only [yl_lit, yL_lit, yw_add, yw_sub, yw_mul, yw_neg, yl_add, yl_sub, yl_mul, cj_and, cj_or, cj_xor, cj_shl, cj_shr, cj_ushr, cj_div, cj_i2c, cj_i2b, cj_dc, ck_and, ck_or, ck_xor, ck_shl, ck_shr, ck_ushr, ck_i2l, ck_l2i, ck_cmp]) ?_
  refine xZ.callv (κ := oJ) (av := [.int (yw (v7 + 1))]) (rest := []) (st' := fun x2 => [.int (yw x2)]) (k0 := x1) (me := xm164) hP_164 rfl (Or.inl rfl) ⟨rfl, by decide⟩ rfl rfl (Nat.le_of_ble_eq_true rfl) (by decide) hP_45 (Nat.le_of_ble_eq_true rfl) (fun _ => rfl) (k_f_Rule_next O f (d + 0) x1 (v7 + 1) M) (fun x2 M1 => ?_)
  refine xZ.adv (me := xm164) hP_164 3 (pc' := 31) (lv' := [(8, .int ((yw v8) + (1 : Int32))), (7, .int (yw x2)), (0, .ref v0), (1, .ref v1), (2, .int (yw v2)), (3, .int (yw v3)), (4, .ref v4), (5, .int (yw v5)), (6, .int (yw v6))]) (st' := []) rfl ?_
  refine xZ.eqs (lv2 := [(8, .int (yw (v8 + 1))), (7, .int (yw x2)), (0, .ref v0), (1, .ref v1), (2, .int (yw v2)), (3, .int (yw v3)), (4, .ref v4), (5, .int (yw v5)), (6, .int (yw v6))]) (st2 := []) (by simp only [yl_lit, yL_lit, yw_add, yw_sub, yw_mul, yw_neg, yl_add, yl_sub, yl_mul, cj_and, cj_or, cj_xor, cj_shl, cj_shr, cj_ushr, cj_div, cj_i2c, cj_i2b, cj_dc, ck_and, ck_or, ck_xor, ck_shl, ck_shr, ck_ushr, ck_i2l, ck_l2i, ck_cmp]) rfl ?_
  exact xZ.sub (xsc (.tail _ (.tail _ (.head _))) (xsc (.tail _ (.tail _ (.tail _ (.head _)))) (xsc (.tail _ (.tail _ (.tail _ (.tail _ (.head _))))) (xsc (.tail _ (.tail _ (.tail _ (.tail _ (.tail _ (.head _)))))) (xsc (.tail _ (.tail _ (.tail _ (.tail _ (.tail _ (.tail _ (.head _))))))) (xsc (.tail _ (.tail _ (.tail _ (.tail _ (.tail _ (.tail _ (.tail _ (.head _)))))))) (xsc (.tail _ (.tail _ (.tail _ (.tail _ (.tail _ (.tail _ (.tail _ (.tail _ (.head _))))))))) (xsc (.tail _ (.head _)) (xsc (.head _) xsn))))))))) (show ([8, 7, 0, 1, 2, 3, 4, 5, 6] : List Nat).Nodup from by decide) (hK31 v0 v1 v2 v3 v4 v5 v6 x2 (v8 + 1) M1)
def f_Series_addRows_127 (O : Nat → Option va_E) (f : Nat) : Nat → Nat → Nat → Int → Int → Nat → Int → Int → Int → xM → Option (Unit × xM)
  | 0, _, _, _, _, _, _, _, _, _ => none
  | n + 1, v0, v1, v2, v3, v4, v5, v6, v8, M =>
    (gJ O M v0 10 7).bind fun x1 =>
    if yw x1 ≤ yw v8 then (
      some ((), M)
    ) else
    (isO O M v0 10).bind fun _ =>
    xcl (f_Series_exceptionTo O f v0 v8 M) fun x2 M1 =>
    if yw x2 = yw (-1) then (
      f_Series_addRows_127 O f n v0 v1 v2 v3 v4 v5 v6 (v8 + 1) M1
    ) else
    (isO O M1 v0 10).bind fun _ =>
    xcl (f_Series_exceptionTo O f v0 v8 M1) fun x3 M2 =>
    (isO O M2 v4 11).bind fun _ =>
    xcl (f_Zone_commonOf O f v4 x3 M2) fun x4 M3 =>
    if yw (x4 - v3) < yw v5 then (
      f_Series_addRows_127 O f n v0 v1 v2 v3 v4 v5 v6 (v8 + 1) M3
    ) else
    if yw v6 ≤ yw (x4 - v3) then (
      f_Series_addRows_127 O f n v0 v1 v2 v3 v4 v5 v6 (v8 + 1) M3
    ) else
    (isO O M3 v0 10).bind fun _ =>
    xcl (f_Series_exceptionDay O f v0 v8 M3) fun x5 M4 =>
    xcl (f_Dates_row O f (x4 - v3) v2 x5 0 M4) fun x6 M5 =>
    (isO O M5 v1 2).bind fun _ =>
    xcl (f_Dates_add O f v1 x6 M5) fun _ M6 =>
    f_Series_addRows_127 O f n v0 v1 v2 v3 v4 v5 v6 (v8 + 1) M6
set_option maxRecDepth 20000 in
theorem k_f_Series_addRows_127 (O : Nat → Option va_E) (f d : Nat) : ∀ (n : Nat) (v0 : Nat) (v1 : Nat) (v2 : Int) (v3 : Int) (v4 : Nat) (v5 : Int) (v6 : Int) (v8 : Int) (M : xM), xZ oU O (d + 5) 164 127 [(0, .ref v0), (1, .ref v1), (2, .int (yw v2)), (3, .int (yw v3)), (4, .ref v4), (5, .int (yw v5)), (6, .int (yw v6)), (8, .int (yw v8))] [] M (f_Series_addRows_127 O f n v0 v1 v2 v3 v4 v5 v6 v8 M) := by
  intro n
  induction n with
  | zero =>
    intro v0 v1 v2 v3 v4 v5 v6 v8 M
    exact xZ.no
  | succ n ih =>
    intro v0 v1 v2 v3 v4 v5 v6 v8 M
    unfold f_Series_addRows_127
    refine xZ.adv (me := xm164) hP_164 2 (pc' := 130) (lv' := [(0, .ref v0), (1, .ref v1), (2, .int (yw v2)), (3, .int (yw v3)), (4, .ref v4), (5, .int (yw v5)), (6, .int (yw v6)), (8, .int (yw v8))]) (st' := [.ref v0, .int (yw v8)]) rfl ?_
    refine xZ.k_gJ (me := xm164) hP_164 rfl (fun x1 => ?_)
    refine xZ.jc_ge (me := xm164) hP_164 rfl (fun h1 => ?_) (fun h1 => ?_)
    · skip
      exact xZ.retu (me := xm164) hP_164 rfl rfl
    · skip
      refine xZ.adv (me := xm164) hP_164 2 (pc' := 139) (lv' := [(0, .ref v0), (1, .ref v1), (2, .int (yw v2)), (3, .int (yw v3)), (4, .ref v4), (5, .int (yw v5)), (6, .int (yw v6)), (8, .int (yw v8))]) (st' := [.int (yw v8), .ref v0]) rfl ?_
      refine xZ.callv (κ := oJ) (av := [.int (yw v8)]) (rest := []) (st' := fun x2 => [.int (yw x2)]) (k0 := v0) (me := xm164) hP_164 rfl (Or.inl rfl) ⟨rfl, by decide⟩ rfl rfl (Nat.le_of_ble_eq_true rfl) (by decide) hP_108 (Nat.le_of_ble_eq_true rfl) (fun _ => rfl) (k_f_Series_exceptionTo O f (d + 4) v0 v8 M) (fun x2 M1 => ?_)
      refine xZ.adv (me := xm164) hP_164 1 (pc' := 143) (lv' := [(0, .ref v0), (1, .ref v1), (2, .int (yw v2)), (3, .int (yw v3)), (4, .ref v4), (5, .int (yw v5)), (6, .int (yw v6)), (8, .int (yw v8))]) (st' := [.int (-1 : Int32), .int (yw x2)]) rfl ?_
      refine xZ.eqs (lv2 := [(0, .ref v0), (1, .ref v1), (2, .int (yw v2)), (3, .int (yw v3)), (4, .ref v4), (5, .int (yw v5)), (6, .int (yw v6)), (8, .int (yw v8))]) (st2 := [.int (yw (-1)), .int (yw x2)]) rfl (by simp only [yl_lit, yL_lit, yw_add, yw_sub, yw_mul, yw_neg, yl_add, yl_sub, yl_mul, cj_and, cj_or, cj_xor, cj_shl, cj_shr, cj_ushr, cj_div, cj_i2c, cj_i2b, cj_dc, ck_and, ck_or, ck_xor, ck_shl, ck_shr, ck_ushr, ck_i2l, ck_l2i, ck_cmp]) ?_
      refine xZ.jc_ne (me := xm164) hP_164 rfl (fun h2 => ?_) (fun h2 => ?_)
      · skip
        refine xZ.adv (me := xm164) hP_164 3 (pc' := 127) (lv' := [(8, .int ((yw v8) + (1 : Int32))), (0, .ref v0), (1, .ref v1), (2, .int (yw v2)), (3, .int (yw v3)), (4, .ref v4), (5, .int (yw v5)), (6, .int (yw v6))]) (st' := []) rfl ?_
        refine xZ.eqs (lv2 := [(8, .int (yw (v8 + 1))), (0, .ref v0), (1, .ref v1), (2, .int (yw v2)), (3, .int (yw v3)), (4, .ref v4), (5, .int (yw v5)), (6, .int (yw v6))]) (st2 := []) (by simp only [yl_lit, yL_lit, yw_add, yw_sub, yw_mul, yw_neg, yl_add, yl_sub, yl_mul, cj_and, cj_or, cj_xor, cj_shl, cj_shr, cj_ushr, cj_div, cj_i2c, cj_i2b, cj_dc, ck_and, ck_or, ck_xor, ck_shl, ck_shr, ck_ushr, ck_i2l, ck_l2i, ck_cmp]) rfl ?_
        exact xZ.sub (xsc (.tail _ (.head _)) (xsc (.tail _ (.tail _ (.head _))) (xsc (.tail _ (.tail _ (.tail _ (.head _)))) (xsc (.tail _ (.tail _ (.tail _ (.tail _ (.head _))))) (xsc (.tail _ (.tail _ (.tail _ (.tail _ (.tail _ (.head _)))))) (xsc (.tail _ (.tail _ (.tail _ (.tail _ (.tail _ (.tail _ (.head _))))))) (xsc (.tail _ (.tail _ (.tail _ (.tail _ (.tail _ (.tail _ (.tail _ (.head _)))))))) (xsc (.head _) xsn)))))))) (show ([8, 0, 1, 2, 3, 4, 5, 6] : List Nat).Nodup from by decide) (ih v0 v1 v2 v3 v4 v5 v6 (v8 + 1) M1)
      · skip
        refine xZ.adv (me := xm164) hP_164 3 (pc' := 154) (lv' := [(0, .ref v0), (1, .ref v1), (2, .int (yw v2)), (3, .int (yw v3)), (4, .ref v4), (5, .int (yw v5)), (6, .int (yw v6)), (8, .int (yw v8))]) (st' := [.int (yw v8), .ref v0, .ref v4]) rfl ?_
        refine xZ.callv (κ := oJ) (av := [.int (yw v8)]) (rest := [.ref v4]) (st' := fun x3 => [.int (yw x3), .ref v4]) (k0 := v0) (me := xm164) hP_164 rfl (Or.inl rfl) ⟨rfl, by decide⟩ rfl rfl (Nat.le_of_ble_eq_true rfl) (by decide) hP_108 (Nat.le_of_ble_eq_true rfl) (fun _ => rfl) (k_f_Series_exceptionTo O f (d + 4) v0 v8 M1) (fun x3 M2 => ?_)
        refine xZ.callv (κ := oJ) (av := [.int (yw x3)]) (rest := []) (st' := fun x4 => [.int (yw x4)]) (k0 := v4) (me := xm164) hP_164 rfl (Or.inl rfl) ⟨rfl, by decide⟩ rfl rfl (Nat.le_of_ble_eq_true rfl) (by decide) hP_105 (Nat.le_of_ble_eq_true rfl) (fun _ => rfl) (k_f_Zone_commonOf O f (d + 1) v4 x3 M2) (fun x4 M3 => ?_)
        refine xZ.adv (me := xm164) hP_164 5 (pc' := 168) (lv' := [(9, .int ((yw x4) - (yw v3))), (0, .ref v0), (1, .ref v1), (2, .int (yw v2)), (3, .int (yw v3)), (4, .ref v4), (5, .int (yw v5)), (6, .int (yw v6)), (8, .int (yw v8))]) (st' := [.int (yw v5), .int ((yw x4) - (yw v3))]) rfl ?_
        refine xZ.eqs (lv2 := [(9, .int (yw (x4 - v3))), (0, .ref v0), (1, .ref v1), (2, .int (yw v2)), (3, .int (yw v3)), (4, .ref v4), (5, .int (yw v5)), (6, .int (yw v6)), (8, .int (yw v8))]) (st2 := [.int (yw v5), .int (yw (x4 - v3))]) (by simp only [yl_lit, yL_lit, yw_add, yw_sub, yw_mul, yw_neg, yl_add, yl_sub, yl_mul, cj_and, cj_or, cj_xor, cj_shl, cj_shr, cj_ushr, cj_div, cj_i2c, cj_i2b, cj_dc, ck_and, ck_or, ck_xor, ck_shl, ck_shr, ck_ushr, ck_i2l, ck_l2i, ck_cmp]) (by simp only [yl_lit, yL_lit, yw_add, yw_sub, yw_mul, yw_neg, yl_add, yl_sub, yl_mul, cj_and, cj_or, cj_xor, cj_shl, cj_shr, cj_ushr, cj_div, cj_i2c, cj_i2b, cj_dc, ck_and, ck_or, ck_xor, ck_shl, ck_shr, ck_ushr, ck_i2l, ck_l2i, ck_cmp]) ?_
        refine xZ.jc_lt (me := xm164) hP_164 rfl (fun h3 => ?_) (fun h3 => ?_)
        · skip
          refine xZ.adv (me := xm164) hP_164 2 (pc' := 127) (lv' := [(8, .int ((yw v8) + (1 : Int32))), (9, .int (yw (x4 - v3))), (0, .ref v0), (1, .ref v1), (2, .int (yw v2)), (3, .int (yw v3)), (4, .ref v4), (5, .int (yw v5)), (6, .int (yw v6))]) (st' := []) rfl ?_
          refine xZ.eqs (lv2 := [(8, .int (yw (v8 + 1))), (9, .int (yw (x4 - v3))), (0, .ref v0), (1, .ref v1), (2, .int (yw v2)), (3, .int (yw v3)), (4, .ref v4), (5, .int (yw v5)), (6, .int (yw v6))]) (st2 := []) (by simp only [yl_lit, yL_lit, yw_add, yw_sub, yw_mul, yw_neg, yl_add, yl_sub, yl_mul, cj_and, cj_or, cj_xor, cj_shl, cj_shr, cj_ushr, cj_div, cj_i2c, cj_i2b, cj_dc, ck_and, ck_or, ck_xor, ck_shl, ck_shr, ck_ushr, ck_i2l, ck_l2i, ck_cmp]) rfl ?_
          exact xZ.sub (xsc (.tail _ (.tail _ (.head _))) (xsc (.tail _ (.tail _ (.tail _ (.head _)))) (xsc (.tail _ (.tail _ (.tail _ (.tail _ (.head _))))) (xsc (.tail _ (.tail _ (.tail _ (.tail _ (.tail _ (.head _)))))) (xsc (.tail _ (.tail _ (.tail _ (.tail _ (.tail _ (.tail _ (.head _))))))) (xsc (.tail _ (.tail _ (.tail _ (.tail _ (.tail _ (.tail _ (.tail _ (.head _)))))))) (xsc (.tail _ (.tail _ (.tail _ (.tail _ (.tail _ (.tail _ (.tail _ (.tail _ (.head _))))))))) (xsc (.head _) xsn)))))))) (show ([8, 9, 0, 1, 2, 3, 4, 5, 6] : List Nat).Nodup from by decide) (ih v0 v1 v2 v3 v4 v5 v6 (v8 + 1) M3)
        · skip
          refine xZ.adv (me := xm164) hP_164 2 (pc' := 175) (lv' := [(9, .int (yw (x4 - v3))), (0, .ref v0), (1, .ref v1), (2, .int (yw v2)), (3, .int (yw v3)), (4, .ref v4), (5, .int (yw v5)), (6, .int (yw v6)), (8, .int (yw v8))]) (st' := [.int (yw v6), .int (yw (x4 - v3))]) rfl ?_
          refine xZ.jc_ge (me := xm164) hP_164 rfl (fun h4 => ?_) (fun h4 => ?_)
          · skip
            refine xZ.adv (me := xm164) hP_164 2 (pc' := 127) (lv' := [(8, .int ((yw v8) + (1 : Int32))), (9, .int (yw (x4 - v3))), (0, .ref v0), (1, .ref v1), (2, .int (yw v2)), (3, .int (yw v3)), (4, .ref v4), (5, .int (yw v5)), (6, .int (yw v6))]) (st' := []) rfl ?_
            refine xZ.eqs (lv2 := [(8, .int (yw (v8 + 1))), (9, .int (yw (x4 - v3))), (0, .ref v0), (1, .ref v1), (2, .int (yw v2)), (3, .int (yw v3)), (4, .ref v4), (5, .int (yw v5)), (6, .int (yw v6))]) (st2 := []) (by simp only [yl_lit, yL_lit, yw_add, yw_sub, yw_mul, yw_neg, yl_add, yl_sub, yl_mul, cj_and, cj_or, cj_xor, cj_shl, cj_shr, cj_ushr, cj_div, cj_i2c, cj_i2b, cj_dc, ck_and, ck_or, ck_xor, ck_shl, ck_shr, ck_ushr, ck_i2l, ck_l2i, ck_cmp]) rfl ?_
            exact xZ.sub (xsc (.tail _ (.tail _ (.head _))) (xsc (.tail _ (.tail _ (.tail _ (.head _)))) (xsc (.tail _ (.tail _ (.tail _ (.tail _ (.head _))))) (xsc (.tail _ (.tail _ (.tail _ (.tail _ (.tail _ (.head _)))))) (xsc (.tail _ (.tail _ (.tail _ (.tail _ (.tail _ (.tail _ (.head _))))))) (xsc (.tail _ (.tail _ (.tail _ (.tail _ (.tail _ (.tail _ (.tail _ (.head _)))))))) (xsc (.tail _ (.tail _ (.tail _ (.tail _ (.tail _ (.tail _ (.tail _ (.tail _ (.head _))))))))) (xsc (.head _) xsn)))))))) (show ([8, 9, 0, 1, 2, 3, 4, 5, 6] : List Nat).Nodup from by decide) (ih v0 v1 v2 v3 v4 v5 v6 (v8 + 1) M3)
          · skip
            refine xZ.adv (me := xm164) hP_164 5 (pc' := 185) (lv' := [(9, .int (yw (x4 - v3))), (0, .ref v0), (1, .ref v1), (2, .int (yw v2)), (3, .int (yw v3)), (4, .ref v4), (5, .int (yw v5)), (6, .int (yw v6)), (8, .int (yw v8))]) (st' := [.int (yw v8), .ref v0, .int (yw v2), .int (yw (x4 - v3)), .ref v1]) rfl ?_
            refine xZ.callv (κ := oJ) (av := [.int (yw v8)]) (rest := [.int (yw v2), .int (yw (x4 - v3)), .ref v1]) (st' := fun x5 => [.int (yw x5), .int (yw v2), .int (yw (x4 - v3)), .ref v1]) (k0 := v0) (me := xm164) hP_164 rfl (Or.inl rfl) ⟨rfl, by decide⟩ rfl rfl (Nat.le_of_ble_eq_true rfl) (by decide) hP_119 (Nat.le_of_ble_eq_true rfl) (fun _ => rfl) (k_f_Series_exceptionDay O f (d + 4) v0 v8 M3) (fun x5 M4 => ?_)
            refine xZ.adv (me := xm164) hP_164 1 (pc' := 189) (lv' := [(9, .int (yw (x4 - v3))), (0, .ref v0), (1, .ref v1), (2, .int (yw v2)), (3, .int (yw v3)), (4, .ref v4), (5, .int (yw v5)), (6, .int (yw v6)), (8, .int (yw v8))]) (st' := [.int (0 : Int32), .int (yw x5), .int (yw v2), .int (yw (x4 - v3)), .ref v1]) rfl ?_
            refine xZ.eqs (lv2 := [(9, .int (yw (x4 - v3))), (0, .ref v0), (1, .ref v1), (2, .int (yw v2)), (3, .int (yw v3)), (4, .ref v4), (5, .int (yw v5)), (6, .int (yw v6)), (8, .int (yw v8))]) (st2 := [.int (yw 0), .int (yw x5), .int (yw v2), .int (yw (x4 - v3)), .ref v1]) rfl (by simp only [yl_lit, yL_lit, yw_add, yw_sub, yw_mul, yw_neg, yl_add, yl_sub, yl_mul, cj_and, cj_or, cj_xor, cj_shl, cj_shr, cj_ushr, cj_div, cj_i2c, cj_i2b, cj_dc, ck_and, ck_or, ck_xor, ck_shl, ck_shr, ck_ushr, ck_i2l, ck_l2i, ck_cmp]) ?_
            refine xZ.calls (κ := oK) (av := [.int (yw (x4 - v3)), .int (yw v2), .int (yw x5), .int (yw 0)]) (rest := [.ref v1]) (st' := fun x6 => [.long (yl x6), .ref v1]) (me := xm164) hP_164 rfl rfl rfl (Nat.le_of_ble_eq_true rfl) (by decide) hP_122 (Nat.le_of_ble_eq_true rfl) (fun _ => rfl) (k_f_Dates_row O f (d + 4) (x4 - v3) v2 x5 0 M4) (fun x6 M5 => ?_)
            refine xZ.callv (κ := oU) (av := [.long (yl x6)]) (rest := []) (st' := fun _ => []) (k0 := v1) (me := xm164) hP_164 rfl (Or.inl rfl) ⟨rfl, by decide⟩ rfl rfl (Nat.le_of_ble_eq_true rfl) (by decide) hP_166 (Nat.le_of_ble_eq_true rfl) (fun _ => rfl) (k_f_Dates_add O f (d + 3) v1 x6 M5) (fun _ M6 => ?_)
            refine xZ.adv (me := xm164) hP_164 2 (pc' := 127) (lv' := [(8, .int ((yw v8) + (1 : Int32))), (9, .int (yw (x4 - v3))), (0, .ref v0), (1, .ref v1), (2, .int (yw v2)), (3, .int (yw v3)), (4, .ref v4), (5, .int (yw v5)), (6, .int (yw v6))]) (st' := []) rfl ?_
            refine xZ.eqs (lv2 := [(8, .int (yw (v8 + 1))), (9, .int (yw (x4 - v3))), (0, .ref v0), (1, .ref v1), (2, .int (yw v2)), (3, .int (yw v3)), (4, .ref v4), (5, .int (yw v5)), (6, .int (yw v6))]) (st2 := []) (by simp only [yl_lit, yL_lit, yw_add, yw_sub, yw_mul, yw_neg, yl_add, yl_sub, yl_mul, cj_and, cj_or, cj_xor, cj_shl, cj_shr, cj_ushr, cj_div, cj_i2c, cj_i2b, cj_dc, ck_and, ck_or, ck_xor, ck_shl, ck_shr, ck_ushr, ck_i2l, ck_l2i, ck_cmp]) rfl ?_
            exact xZ.sub (xsc (.tail _ (.tail _ (.head _))) (xsc (.tail _ (.tail _ (.tail _ (.head _)))) (xsc (.tail _ (.tail _ (.tail _ (.tail _ (.head _))))) (xsc (.tail _ (.tail _ (.tail _ (.tail _ (.tail _ (.head _)))))) (xsc (.tail _ (.tail _ (.tail _ (.tail _ (.tail _ (.tail _ (.head _))))))) (xsc (.tail _ (.tail _ (.tail _ (.tail _ (.tail _ (.tail _ (.tail _ (.head _)))))))) (xsc (.tail _ (.tail _ (.tail _ (.tail _ (.tail _ (.tail _ (.tail _ (.tail _ (.head _))))))))) (xsc (.head _) xsn)))))))) (show ([8, 9, 0, 1, 2, 3, 4, 5, 6] : List Nat).Nodup from by decide) (ih v0 v1 v2 v3 v4 v5 v6 (v8 + 1) M6)
def f_Series_addRows_124 (O : Nat → Option va_E) (f : Nat) (v0 : Nat) (v1 : Nat) (v2 : Int) (v3 : Int) (v4 : Nat) (v5 : Int) (v6 : Int) (M : xM) : Option (Unit × xM) :=
  f_Series_addRows_127 O f f v0 v1 v2 v3 v4 v5 v6 0 M
set_option maxRecDepth 20000 in
theorem k_f_Series_addRows_124 (O : Nat → Option va_E) (f d : Nat) (v0 : Nat) (v1 : Nat) (v2 : Int) (v3 : Int) (v4 : Nat) (v5 : Int) (v6 : Int) (M : xM) : xZ oU O (d + 5) 164 124 [(0, .ref v0), (1, .ref v1), (2, .int (yw v2)), (3, .int (yw v3)), (4, .ref v4), (5, .int (yw v5)), (6, .int (yw v6))] [] M (f_Series_addRows_124 O f v0 v1 v2 v3 v4 v5 v6 M) := by
  unfold f_Series_addRows_124
  refine xZ.adv (me := xm164) hP_164 2 (pc' := 127) (lv' := [(8, .int (0 : Int32)), (0, .ref v0), (1, .ref v1), (2, .int (yw v2)), (3, .int (yw v3)), (4, .ref v4), (5, .int (yw v5)), (6, .int (yw v6))]) (st' := []) rfl ?_
  refine xZ.eqs (lv2 := [(8, .int (yw 0)), (0, .ref v0), (1, .ref v1), (2, .int (yw v2)), (3, .int (yw v3)), (4, .ref v4), (5, .int (yw v5)), (6, .int (yw v6))]) (st2 := []) (by simp only [yl_lit, yL_lit, yw_add, yw_sub, yw_mul, yw_neg, yl_add, yl_sub, yl_mul, cj_and, cj_or, cj_xor, cj_shl, cj_shr, cj_ushr, cj_div, cj_i2c, cj_i2b, cj_dc, ck_and, ck_or, ck_xor, ck_shl, ck_shr, ck_ushr, ck_i2l, ck_l2i, ck_cmp]) rfl ?_
  exact xZ.sub (xsc (.tail _ (.head _)) (xsc (.tail _ (.tail _ (.head _))) (xsc (.tail _ (.tail _ (.tail _ (.head _)))) (xsc (.tail _ (.tail _ (.tail _ (.tail _ (.head _))))) (xsc (.tail _ (.tail _ (.tail _ (.tail _ (.tail _ (.head _)))))) (xsc (.tail _ (.tail _ (.tail _ (.tail _ (.tail _ (.tail _ (.head _))))))) (xsc (.tail _ (.tail _ (.tail _ (.tail _ (.tail _ (.tail _ (.tail _ (.head _)))))))) (xsc (.head _) xsn)))))))) (show ([8, 0, 1, 2, 3, 4, 5, 6] : List Nat).Nodup from by decide) (k_f_Series_addRows_127 O f d f v0 v1 v2 v3 v4 v5 v6 0 M)
def f_Series_addRows_31 (O : Nat → Option va_E) (f : Nat) : Nat → Nat → Nat → Int → Int → Nat → Int → Int → Int → Int → xM → Option (Unit × xM)
  | 0, _, _, _, _, _, _, _, _, _, _ => none
  | n + 1, v0, v1, v2, v3, v4, v5, v6, v7, v8, M =>
    if yw 1000 ≤ yw v8 then (
      f_Series_addRows_124 O f v0 v1 v2 v3 v4 v5 v6 M
    ) else
    if yw v7 = yw (-1) then (
      f_Series_addRows_124 O f v0 v1 v2 v3 v4 v5 v6 M
    ) else
    (gJ O M v0 10 2).bind fun x1 =>
    (isO O M v4 11).bind fun _ =>
    xcl (f_Zone_commonOf O f v4 ((v7 * 1440) + x1) M) fun x2 M1 =>
    if yw (x2 - v3) < yw v6 then (
      if yw (x2 - v3) < yw v5 then (
        f_Series_addRows_105 O f (f_Series_addRows_31 O f n) v0 v1 v2 v3 v4 v5 v6 v7 v8 M1
      ) else
      (isO O M1 v0 10).bind fun _ =>
      xcl (f_Series_exceptionOf O f v0 v7 M1) fun x3 M2 =>
      if yw x3 = yw (-1) then (
        xcl (f_Dates_row O f (x2 - v3) v2 v7 0 M2) fun x4 M3 =>
        (isO O M3 v1 2).bind fun _ =>
        xcl (f_Dates_add O f v1 x4 M3) fun _ M4 =>
        f_Series_addRows_105 O f (f_Series_addRows_31 O f n) v0 v1 v2 v3 v4 v5 v6 v7 v8 M4
      ) else
      f_Series_addRows_105 O f (f_Series_addRows_31 O f n) v0 v1 v2 v3 v4 v5 v6 v7 v8 M2
    ) else
    f_Series_addRows_124 O f v0 v1 v2 v3 v4 v5 v6 M1
set_option maxRecDepth 20000 in
theorem k_f_Series_addRows_31 (O : Nat → Option va_E) (f d : Nat) : ∀ (n : Nat) (v0 : Nat) (v1 : Nat) (v2 : Int) (v3 : Int) (v4 : Nat) (v5 : Int) (v6 : Int) (v7 : Int) (v8 : Int) (M : xM), xZ oU O (d + 5) 164 31 [(0, .ref v0), (1, .ref v1), (2, .int (yw v2)), (3, .int (yw v3)), (4, .ref v4), (5, .int (yw v5)), (6, .int (yw v6)), (7, .int (yw v7)), (8, .int (yw v8))] [] M (f_Series_addRows_31 O f n v0 v1 v2 v3 v4 v5 v6 v7 v8 M) := by
  intro n
  induction n with
  | zero =>
    intro v0 v1 v2 v3 v4 v5 v6 v7 v8 M
    exact xZ.no
  | succ n ih =>
    intro v0 v1 v2 v3 v4 v5 v6 v7 v8 M
    unfold f_Series_addRows_31
    refine xZ.adv (me := xm164) hP_164 2 (pc' := 36) (lv' := [(0, .ref v0), (1, .ref v1), (2, .int (yw v2)), (3, .int (yw v3)), (4, .ref v4), (5, .int (yw v5)), (6, .int (yw v6)), (7, .int (yw v7)), (8, .int (yw v8))]) (st' := [.int (1000 : Int32), .int (yw v8)]) rfl ?_
    refine xZ.eqs (lv2 := [(0, .ref v0), (1, .ref v1), (2, .int (yw v2)), (3, .int (yw v3)), (4, .ref v4), (5, .int (yw v5)), (6, .int (yw v6)), (7, .int (yw v7)), (8, .int (yw v8))]) (st2 := [.int (yw 1000), .int (yw v8)]) rfl (by simp only [yl_lit, yL_lit, yw_add, yw_sub, yw_mul, yw_neg, yl_add, yl_sub, yl_mul, cj_and, cj_or, cj_xor, cj_shl, cj_shr, cj_ushr, cj_div, cj_i2c, cj_i2b, cj_dc, ck_and, ck_or, ck_xor, ck_shl, ck_shr, ck_ushr, ck_i2l, ck_l2i, ck_cmp]) ?_
    refine xZ.jc_ge (me := xm164) hP_164 rfl (fun h1 => ?_) (fun h1 => ?_)
    · skip
      exact xZ.sub (xsc (.head _) (xsc (.tail _ (.head _)) (xsc (.tail _ (.tail _ (.head _))) (xsc (.tail _ (.tail _ (.tail _ (.head _)))) (xsc (.tail _ (.tail _ (.tail _ (.tail _ (.head _))))) (xsc (.tail _ (.tail _ (.tail _ (.tail _ (.tail _ (.head _)))))) (xsc (.tail _ (.tail _ (.tail _ (.tail _ (.tail _ (.tail _ (.head _))))))) xsn))))))) (show ([0, 1, 2, 3, 4, 5, 6, 7, 8] : List Nat).Nodup from by decide) (k_f_Series_addRows_124 O f d v0 v1 v2 v3 v4 v5 v6 M)
    · skip
      refine xZ.adv (me := xm164) hP_164 2 (pc' := 42) (lv' := [(0, .ref v0), (1, .ref v1), (2, .int (yw v2)), (3, .int (yw v3)), (4, .ref v4), (5, .int (yw v5)), (6, .int (yw v6)), (7, .int (yw v7)), (8, .int (yw v8))]) (st' := [.int (-1 : Int32), .int (yw v7)]) rfl ?_
      refine xZ.eqs (lv2 := [(0, .ref v0), (1, .ref v1), (2, .int (yw v2)), (3, .int (yw v3)), (4, .ref v4), (5, .int (yw v5)), (6, .int (yw v6)), (7, .int (yw v7)), (8, .int (yw v8))]) (st2 := [.int (yw (-1)), .int (yw v7)]) rfl (by simp only [yl_lit, yL_lit, yw_add, yw_sub, yw_mul, yw_neg, yl_add, yl_sub, yl_mul, cj_and, cj_or, cj_xor, cj_shl, cj_shr, cj_ushr, cj_div, cj_i2c, cj_i2b, cj_dc, ck_and, ck_or, ck_xor, ck_shl, ck_shr, ck_ushr, ck_i2l, ck_l2i, ck_cmp]) ?_
      refine xZ.jc_eq (me := xm164) hP_164 rfl (fun h2 => ?_) (fun h2 => ?_)
      · skip
        exact xZ.sub (xsc (.head _) (xsc (.tail _ (.head _)) (xsc (.tail _ (.tail _ (.head _))) (xsc (.tail _ (.tail _ (.tail _ (.head _)))) (xsc (.tail _ (.tail _ (.tail _ (.tail _ (.head _))))) (xsc (.tail _ (.tail _ (.tail _ (.tail _ (.tail _ (.head _)))))) (xsc (.tail _ (.tail _ (.tail _ (.tail _ (.tail _ (.tail _ (.head _))))))) xsn))))))) (show ([0, 1, 2, 3, 4, 5, 6, 7, 8] : List Nat).Nodup from by decide) (k_f_Series_addRows_124 O f d v0 v1 v2 v3 v4 v5 v6 M)
      · skip
        refine xZ.adv (me := xm164) hP_164 5 (pc' := 54) (lv' := [(0, .ref v0), (1, .ref v1), (2, .int (yw v2)), (3, .int (yw v3)), (4, .ref v4), (5, .int (yw v5)), (6, .int (yw v6)), (7, .int (yw v7)), (8, .int (yw v8))]) (st' := [.ref v0, .int ((yw v7) * (1440 : Int32)), .ref v4]) rfl ?_
        refine xZ.eqs (lv2 := [(0, .ref v0), (1, .ref v1), (2, .int (yw v2)), (3, .int (yw v3)), (4, .ref v4), (5, .int (yw v5)), (6, .int (yw v6)), (7, .int (yw v7)), (8, .int (yw v8))]) (st2 := [.ref v0, .int (yw (v7 * 1440)), .ref v4]) rfl (by simp only [yl_lit, yL_lit, yw_add, yw_sub, yw_mul, yw_neg, yl_add, yl_sub, yl_mul, cj_and, cj_or, cj_xor, cj_shl, cj_shr, cj_ushr, cj_div, cj_i2c, cj_i2b, cj_dc, ck_and, ck_or, ck_xor, ck_shl, ck_shr, ck_ushr, ck_i2l, ck_l2i, ck_cmp]) ?_
        refine xZ.k_gJ (me := xm164) hP_164 rfl (fun x1 => ?_)
        refine xZ.adv (me := xm164) hP_164 1 (pc' := 58) (lv' := [(0, .ref v0), (1, .ref v1), (2, .int (yw v2)), (3, .int (yw v3)), (4, .ref v4), (5, .int (yw v5)), (6, .int (yw v6)), (7, .int (yw v7)), (8, .int (yw v8))]) (st' := [.int ((yw (v7 * 1440)) + (yw x1)), .ref v4]) rfl ?_
        refine xZ.eqs (lv2 := [(0, .ref v0), (1, .ref v1), (2, .int (yw v2)), (3, .int (yw v3)), (4, .ref v4), (5, .int (yw v5)), (6, .int (yw v6)), (7, .int (yw v7)), (8, .int (yw v8))]) (st2 := [.int (yw ((v7 * 1440) + x1)), .ref v4]) rfl (by simp only [yl_lit, yL_lit, yw_add, yw_sub, yw_mul, yw_neg, yl_add, yl_sub, yl_mul, cj_and, cj_or, cj_xor, cj_shl, cj_shr, cj_ushr, cj_div, cj_i2c, cj_i2b, cj_dc, ck_and, ck_or, ck_xor, ck_shl, ck_shr, ck_ushr, ck_i2l, ck_l2i, ck_cmp]) ?_
        refine xZ.callv (κ := oJ) (av := [.int (yw ((v7 * 1440) + x1))]) (rest := []) (st' := fun x2 => [.int (yw x2)]) (k0 := v4) (me := xm164) hP_164 rfl (Or.inl rfl) ⟨rfl, by decide⟩ rfl rfl (Nat.le_of_ble_eq_true rfl) (by decide) hP_105 (Nat.le_of_ble_eq_true rfl) (fun _ => rfl) (k_f_Zone_commonOf O f (d + 1) v4 ((v7 * 1440) + x1) M) (fun x2 M1 => ?_)
        refine xZ.adv (me := xm164) hP_164 5 (pc' := 69) (lv' := [(9, .int ((yw x2) - (yw v3))), (0, .ref v0), (1, .ref v1), (2, .int (yw v2)), (3, .int (yw v3)), (4, .ref v4), (5, .int (yw v5)), (6, .int (yw v6)), (7, .int (yw v7)), (8, .int (yw v8))]) (st' := [.int (yw v6), .int ((yw x2) - (yw v3))]) rfl ?_
        refine xZ.eqs (lv2 := [(9, .int (yw (x2 - v3))), (0, .ref v0), (1, .ref v1), (2, .int (yw v2)), (3, .int (yw v3)), (4, .ref v4), (5, .int (yw v5)), (6, .int (yw v6)), (7, .int (yw v7)), (8, .int (yw v8))]) (st2 := [.int (yw v6), .int (yw (x2 - v3))]) (by simp only [yl_lit, yL_lit, yw_add, yw_sub, yw_mul, yw_neg, yl_add, yl_sub, yl_mul, cj_and, cj_or, cj_xor, cj_shl, cj_shr, cj_ushr, cj_div, cj_i2c, cj_i2b, cj_dc, ck_and, ck_or, ck_xor, ck_shl, ck_shr, ck_ushr, ck_i2l, ck_l2i, ck_cmp]) (by simp only [yl_lit, yL_lit, yw_add, yw_sub, yw_mul, yw_neg, yl_add, yl_sub, yl_mul, cj_and, cj_or, cj_xor, cj_shl, cj_shr, cj_ushr, cj_div, cj_i2c, cj_i2b, cj_dc, ck_and, ck_or, ck_xor, ck_shl, ck_shr, ck_ushr, ck_i2l, ck_l2i, ck_cmp]) ?_
        refine xZ.jc_lt (me := xm164) hP_164 rfl (fun h3 => ?_) (fun h3 => ?_)
        · skip
          refine xZ.adv (me := xm164) hP_164 2 (pc' := 79) (lv' := [(9, .int (yw (x2 - v3))), (0, .ref v0), (1, .ref v1), (2, .int (yw v2)), (3, .int (yw v3)), (4, .ref v4), (5, .int (yw v5)), (6, .int (yw v6)), (7, .int (yw v7)), (8, .int (yw v8))]) (st' := [.int (yw v5), .int (yw (x2 - v3))]) rfl ?_
          refine xZ.jc_lt (me := xm164) hP_164 rfl (fun h4 => ?_) (fun h4 => ?_)
          · skip
            exact xZ.sub (xsc (.tail _ (.head _)) (xsc (.tail _ (.tail _ (.head _))) (xsc (.tail _ (.tail _ (.tail _ (.head _)))) (xsc (.tail _ (.tail _ (.tail _ (.tail _ (.head _))))) (xsc (.tail _ (.tail _ (.tail _ (.tail _ (.tail _ (.head _)))))) (xsc (.tail _ (.tail _ (.tail _ (.tail _ (.tail _ (.tail _ (.head _))))))) (xsc (.tail _ (.tail _ (.tail _ (.tail _ (.tail _ (.tail _ (.tail _ (.head _)))))))) (xsc (.tail _ (.tail _ (.tail _ (.tail _ (.tail _ (.tail _ (.tail _ (.tail _ (.head _))))))))) (xsc (.tail _ (.tail _ (.tail _ (.tail _ (.tail _ (.tail _ (.tail _ (.tail _ (.tail _ (.head _)))))))))) xsn))))))))) (show ([9, 0, 1, 2, 3, 4, 5, 6, 7, 8] : List Nat).Nodup from by decide) (k_f_Series_addRows_105 O f d (f_Series_addRows_31 O f n) ih v0 v1 v2 v3 v4 v5 v6 v7 v8 M1)
          · skip
            refine xZ.adv (me := xm164) hP_164 2 (pc' := 85) (lv' := [(9, .int (yw (x2 - v3))), (0, .ref v0), (1, .ref v1), (2, .int (yw v2)), (3, .int (yw v3)), (4, .ref v4), (5, .int (yw v5)), (6, .int (yw v6)), (7, .int (yw v7)), (8, .int (yw v8))]) (st' := [.int (yw v7), .ref v0]) rfl ?_
            refine xZ.callv (κ := oJ) (av := [.int (yw v7)]) (rest := []) (st' := fun x3 => [.int (yw x3)]) (k0 := v0) (me := xm164) hP_164 rfl (Or.inl rfl) ⟨rfl, by decide⟩ rfl rfl (Nat.le_of_ble_eq_true rfl) (by decide) hP_104 (Nat.le_of_ble_eq_true rfl) (fun _ => rfl) (k_f_Series_exceptionOf O f (d + 4) v0 v7 M1) (fun x3 M2 => ?_)
            refine xZ.adv (me := xm164) hP_164 1 (pc' := 89) (lv' := [(9, .int (yw (x2 - v3))), (0, .ref v0), (1, .ref v1), (2, .int (yw v2)), (3, .int (yw v3)), (4, .ref v4), (5, .int (yw v5)), (6, .int (yw v6)), (7, .int (yw v7)), (8, .int (yw v8))]) (st' := [.int (-1 : Int32), .int (yw x3)]) rfl ?_
            refine xZ.eqs (lv2 := [(9, .int (yw (x2 - v3))), (0, .ref v0), (1, .ref v1), (2, .int (yw v2)), (3, .int (yw v3)), (4, .ref v4), (5, .int (yw v5)), (6, .int (yw v6)), (7, .int (yw v7)), (8, .int (yw v8))]) (st2 := [.int (yw (-1)), .int (yw x3)]) rfl (by simp only [yl_lit, yL_lit, yw_add, yw_sub, yw_mul, yw_neg, yl_add, yl_sub, yl_mul, cj_and, cj_or, cj_xor, cj_shl, cj_shr, cj_ushr, cj_div, cj_i2c, cj_i2b, cj_dc, ck_and, ck_or, ck_xor, ck_shl, ck_shr, ck_ushr, ck_i2l, ck_l2i, ck_cmp]) ?_
            refine xZ.jc_ne (me := xm164) hP_164 rfl (fun h5 => ?_) (fun h5 => ?_)
            · skip
              refine xZ.adv (me := xm164) hP_164 5 (pc' := 99) (lv' := [(9, .int (yw (x2 - v3))), (0, .ref v0), (1, .ref v1), (2, .int (yw v2)), (3, .int (yw v3)), (4, .ref v4), (5, .int (yw v5)), (6, .int (yw v6)), (7, .int (yw v7)), (8, .int (yw v8))]) (st' := [.int (0 : Int32), .int (yw v7), .int (yw v2), .int (yw (x2 - v3)), .ref v1]) rfl ?_
              refine xZ.eqs (lv2 := [(9, .int (yw (x2 - v3))), (0, .ref v0), (1, .ref v1), (2, .int (yw v2)), (3, .int (yw v3)), (4, .ref v4), (5, .int (yw v5)), (6, .int (yw v6)), (7, .int (yw v7)), (8, .int (yw v8))]) (st2 := [.int (yw 0), .int (yw v7), .int (yw v2), .int (yw (x2 - v3)), .ref v1]) rfl (by simp only [yl_lit, yL_lit, yw_add, yw_sub, yw_mul, yw_neg, yl_add, yl_sub, yl_mul, cj_and, cj_or, cj_xor, cj_shl, cj_shr, cj_ushr, cj_div, cj_i2c, cj_i2b, cj_dc, ck_and, ck_or, ck_xor, ck_shl, ck_shr, ck_ushr, ck_i2l, ck_l2i, ck_cmp]) ?_
              refine xZ.calls (κ := oK) (av := [.int (yw (x2 - v3)), .int (yw v2), .int (yw v7), .int (yw 0)]) (rest := [.ref v1]) (st' := fun x4 => [.long (yl x4), .ref v1]) (me := xm164) hP_164 rfl rfl rfl (Nat.le_of_ble_eq_true rfl) (by decide) hP_122 (Nat.le_of_ble_eq_true rfl) (fun _ => rfl) (k_f_Dates_row O f (d + 4) (x2 - v3) v2 v7 0 M2) (fun x4 M3 => ?_)
              refine xZ.callv (κ := oU) (av := [.long (yl x4)]) (rest := []) (st' := fun _ => []) (k0 := v1) (me := xm164) hP_164 rfl (Or.inl rfl) ⟨rfl, by decide⟩ rfl rfl (Nat.le_of_ble_eq_true rfl) (by decide) hP_166 (Nat.le_of_ble_eq_true rfl) (fun _ => rfl) (k_f_Dates_add O f (d + 3) v1 x4 M3) (fun _ M4 => ?_)
              exact xZ.sub (xsc (.tail _ (.head _)) (xsc (.tail _ (.tail _ (.head _))) (xsc (.tail _ (.tail _ (.tail _ (.head _)))) (xsc (.tail _ (.tail _ (.tail _ (.tail _ (.head _))))) (xsc (.tail _ (.tail _ (.tail _ (.tail _ (.tail _ (.head _)))))) (xsc (.tail _ (.tail _ (.tail _ (.tail _ (.tail _ (.tail _ (.head _))))))) (xsc (.tail _ (.tail _ (.tail _ (.tail _ (.tail _ (.tail _ (.tail _ (.head _)))))))) (xsc (.tail _ (.tail _ (.tail _ (.tail _ (.tail _ (.tail _ (.tail _ (.tail _ (.head _))))))))) (xsc (.tail _ (.tail _ (.tail _ (.tail _ (.tail _ (.tail _ (.tail _ (.tail _ (.tail _ (.head _)))))))))) xsn))))))))) (show ([9, 0, 1, 2, 3, 4, 5, 6, 7, 8] : List Nat).Nodup from by decide) (k_f_Series_addRows_105 O f d (f_Series_addRows_31 O f n) ih v0 v1 v2 v3 v4 v5 v6 v7 v8 M4)
            · skip
              exact xZ.sub (xsc (.tail _ (.head _)) (xsc (.tail _ (.tail _ (.head _))) (xsc (.tail _ (.tail _ (.tail _ (.head _)))) (xsc (.tail _ (.tail _ (.tail _ (.tail _ (.head _))))) (xsc (.tail _ (.tail _ (.tail _ (.tail _ (.tail _ (.head _)))))) (xsc (.tail _ (.tail _ (.tail _ (.tail _ (.tail _ (.tail _ (.head _))))))) (xsc (.tail _ (.tail _ (.tail _ (.tail _ (.tail _ (.tail _ (.tail _ (.head _)))))))) (xsc (.tail _ (.tail _ (.tail _ (.tail _ (.tail _ (.tail _ (.tail _ (.tail _ (.head _))))))))) (xsc (.tail _ (.tail _ (.tail _ (.tail _ (.tail _ (.tail _ (.tail _ (.tail _ (.tail _ (.head _)))))))))) xsn))))))))) (show ([9, 0, 1, 2, 3, 4, 5, 6, 7, 8] : List Nat).Nodup from by decide) (k_f_Series_addRows_105 O f d (f_Series_addRows_31 O f n) ih v0 v1 v2 v3 v4 v5 v6 v7 v8 M2)
        · skip
          refine xZ.adv (me := xm164) hP_164 1 (pc' := 124) (lv' := [(9, .int (yw (x2 - v3))), (0, .ref v0), (1, .ref v1), (2, .int (yw v2)), (3, .int (yw v3)), (4, .ref v4), (5, .int (yw v5)), (6, .int (yw v6)), (7, .int (yw v7)), (8, .int (yw v8))]) (st' := []) rfl ?_
          exact xZ.sub (xsc (.tail _ (.head _)) (xsc (.tail _ (.tail _ (.head _))) (xsc (.tail _ (.tail _ (.tail _ (.head _)))) (xsc (.tail _ (.tail _ (.tail _ (.tail _ (.head _))))) (xsc (.tail _ (.tail _ (.tail _ (.tail _ (.tail _ (.head _)))))) (xsc (.tail _ (.tail _ (.tail _ (.tail _ (.tail _ (.tail _ (.head _))))))) (xsc (.tail _ (.tail _ (.tail _ (.tail _ (.tail _ (.tail _ (.tail _ (.head _)))))))) xsn))))))) (show ([9, 0, 1, 2, 3, 4, 5, 6, 7, 8] : List Nat).Nodup from by decide) (k_f_Series_addRows_124 O f d v0 v1 v2 v3 v4 v5 v6 M1)
def f_Series_addRows (O : Nat → Option va_E) (f : Nat) (v0 : Nat) (v1 : Nat) (v2 : Int) (v3 : Int) (v4 : Nat) (v5 : Int) (v6 : Int) (M : xM) : Option (Unit × xM) :=
  (gJ O M v0 10 3).bind fun x1 =>
  (isO O M v1 2).bind fun _ =>
  xcl (f_Dates_putLength O f v1 v2 x1 M) fun _ M1 =>
  (gR O M1 v0 10 6).bind fun x3 =>
  (isO O M1 v0 10).bind fun _ =>
  xcl (f_Series_earliestDay O f v0 v4 (v5 + v3) M1) fun x4 M2 =>
  (isO O M2 x3 9).bind fun _ =>
  xcl (f_Rule_next O f x3 x4 M2) fun x5 M3 =>
  f_Series_addRows_31 O f f v0 v1 v2 v3 v4 v5 v6 x5 0 M3
set_option maxRecDepth 20000 in
theorem k_f_Series_addRows (O : Nat → Option va_E) (f d : Nat) (v0 : Nat) (v1 : Nat) (v2 : Int) (v3 : Int) (v4 : Nat) (v5 : Int) (v6 : Int) (M : xM) : xZ oU O (d + 5) 164 0 [(0, .ref v0), (1, .ref v1), (2, .int (yw v2)), (3, .int (yw v3)), (4, .ref v4), (5, .int (yw v5)), (6, .int (yw v6))] [] M (f_Series_addRows O f v0 v1 v2 v3 v4 v5 v6 M) := by
  unfold f_Series_addRows
  refine xZ.adv (me := xm164) hP_164 3 (pc' := 3) (lv' := [(0, .ref v0), (1, .ref v1), (2, .int (yw v2)), (3, .int (yw v3)), (4, .ref v4), (5, .int (yw v5)), (6, .int (yw v6))]) (st' := [.ref v0, .int (yw v2), .ref v1]) rfl ?_
  refine xZ.k_gJ (me := xm164) hP_164 rfl (fun x1 => ?_)
  refine xZ.callv (κ := oU) (av := [.int (yw v2), .int (yw x1)]) (rest := []) (st' := fun _ => []) (k0 := v1) (me := xm164) hP_164 rfl (Or.inl rfl) ⟨rfl, by decide⟩ rfl rfl (Nat.le_of_ble_eq_true rfl) (by decide) hP_165 (Nat.le_of_ble_eq_true rfl) (fun _ => rfl) (k_f_Dates_putLength O f (d + 4) v1 v2 x1 M) (fun _ M1 => ?_)
  refine xZ.adv (me := xm164) hP_164 1 (pc' := 10) (lv' := [(0, .ref v0), (1, .ref v1), (2, .int (yw v2)), (3, .int (yw v3)), (4, .ref v4), (5, .int (yw v5)), (6, .int (yw v6))]) (st' := [.ref v0]) rfl ?_
  refine xZ.k_gR (me := xm164) hP_164 rfl (fun x3 => ?_)
  refine xZ.adv (me := xm164) hP_164 5 (pc' := 20) (lv' := [(0, .ref v0), (1, .ref v1), (2, .int (yw v2)), (3, .int (yw v3)), (4, .ref v4), (5, .int (yw v5)), (6, .int (yw v6))]) (st' := [.int ((yw v5) + (yw v3)), .ref v4, .ref v0, .ref x3]) rfl ?_
  refine xZ.eqs (lv2 := [(0, .ref v0), (1, .ref v1), (2, .int (yw v2)), (3, .int (yw v3)), (4, .ref v4), (5, .int (yw v5)), (6, .int (yw v6))]) (st2 := [.int (yw (v5 + v3)), .ref v4, .ref v0, .ref x3]) rfl (by simp only [yl_lit, yL_lit, yw_add, yw_sub, yw_mul, yw_neg, yl_add, yl_sub, yl_mul, cj_and, cj_or, cj_xor, cj_shl, cj_shr, cj_ushr, cj_div, cj_i2c, cj_i2b, cj_dc, ck_and, ck_or, ck_xor, ck_shl, ck_shr, ck_ushr, ck_i2l, ck_l2i, ck_cmp]) ?_
  refine xZ.callv (κ := oJ) (av := [.ref v4, .int (yw (v5 + v3))]) (rest := [.ref x3]) (st' := fun x4 => [.int (yw x4), .ref x3]) (k0 := v0) (me := xm164) hP_164 rfl (Or.inl rfl) ⟨rfl, by decide⟩ rfl rfl (Nat.le_of_ble_eq_true rfl) (by decide) hP_118 (Nat.le_of_ble_eq_true rfl) (fun _ => rfl) (k_f_Series_earliestDay O f (d + 4) v0 v4 (v5 + v3) M1) (fun x4 M2 => ?_)
  refine xZ.callv (κ := oJ) (av := [.int (yw x4)]) (rest := []) (st' := fun x5 => [.int (yw x5)]) (k0 := x3) (me := xm164) hP_164 rfl (Or.inl rfl) ⟨rfl, by decide⟩ rfl rfl (Nat.le_of_ble_eq_true rfl) (by decide) hP_45 (Nat.le_of_ble_eq_true rfl) (fun _ => rfl) (k_f_Rule_next O f (d + 0) x3 x4 M2) (fun x5 M3 => ?_)
  refine xZ.adv (me := xm164) hP_164 3 (pc' := 31) (lv' := [(8, .int (0 : Int32)), (7, .int (yw x5)), (0, .ref v0), (1, .ref v1), (2, .int (yw v2)), (3, .int (yw v3)), (4, .ref v4), (5, .int (yw v5)), (6, .int (yw v6))]) (st' := []) rfl ?_
  refine xZ.eqs (lv2 := [(8, .int (yw 0)), (7, .int (yw x5)), (0, .ref v0), (1, .ref v1), (2, .int (yw v2)), (3, .int (yw v3)), (4, .ref v4), (5, .int (yw v5)), (6, .int (yw v6))]) (st2 := []) (by simp only [yl_lit, yL_lit, yw_add, yw_sub, yw_mul, yw_neg, yl_add, yl_sub, yl_mul, cj_and, cj_or, cj_xor, cj_shl, cj_shr, cj_ushr, cj_div, cj_i2c, cj_i2b, cj_dc, ck_and, ck_or, ck_xor, ck_shl, ck_shr, ck_ushr, ck_i2l, ck_l2i, ck_cmp]) rfl ?_
  exact xZ.sub (xsc (.tail _ (.tail _ (.head _))) (xsc (.tail _ (.tail _ (.tail _ (.head _)))) (xsc (.tail _ (.tail _ (.tail _ (.tail _ (.head _))))) (xsc (.tail _ (.tail _ (.tail _ (.tail _ (.tail _ (.head _)))))) (xsc (.tail _ (.tail _ (.tail _ (.tail _ (.tail _ (.tail _ (.head _))))))) (xsc (.tail _ (.tail _ (.tail _ (.tail _ (.tail _ (.tail _ (.tail _ (.head _)))))))) (xsc (.tail _ (.tail _ (.tail _ (.tail _ (.tail _ (.tail _ (.tail _ (.tail _ (.head _))))))))) (xsc (.tail _ (.head _)) (xsc (.head _) xsn))))))))) (show ([8, 7, 0, 1, 2, 3, 4, 5, 6] : List Nat).Nodup from by decide) (k_f_Series_addRows_31 O f d f v0 v1 v2 v3 v4 v5 v6 x5 0 M3)
def f_Hall_collectOn_7 (O : Nat → Option va_E) (f : Nat) : Nat → Nat → Nat → Int → Int → Int → Int → xM → Option (Unit × xM)
  | 0, _, _, _, _, _, _, _ => none
  | n + 1, v0, v1, v2, v3, v4, v5, M =>
    (gR O M v0 4 3).bind fun x1 =>
    (aJN O M x1).bind fun x2 =>
    if yw x2 ≤ yw v5 then (
      some ((), M)
    ) else
    (gR O M v0 4 3).bind fun x3 =>
    (aJR O M x3 v5).bind fun x4 =>
    (gJ O M x4 10 0).bind fun x5 =>
    if yw x5 = yw 0 then (
      f_Hall_collectOn_7 O f n v0 v1 v2 v3 v4 (v5 + 1) M
    ) else
    if yw (jand (jshr v2 (jand v5 31)) 1) = yw 0 then (
      f_Hall_collectOn_7 O f n v0 v1 v2 v3 v4 (v5 + 1) M
    ) else
    (gR O M v0 4 3).bind fun x6 =>
    (aJR O M x6 v5).bind fun x7 =>
    (gR O M v0 4 3).bind fun x8 =>
    (aJR O M x8 v5).bind fun x9 =>
    (isO O M v0 4).bind fun _ =>
    xcl (f_Hall_zoneOf O f v0 x9 M) fun x10 M1 =>
    (gR O M1 v0 4 3).bind fun x11 =>
    (aJR O M1 x11 v5).bind fun x12 =>
    (gJ O M1 x12 10 3).bind fun x13 =>
    (isO O M1 x7 10).bind fun _ =>
    xcl (f_Series_addRows O f x7 v1 v5 0 x10 ((v3 - x13) + 1) v4 M1) fun _ M2 =>
    f_Hall_collectOn_7 O f n v0 v1 v2 v3 v4 (v5 + 1) M2
set_option maxRecDepth 20000 in
theorem k_f_Hall_collectOn_7 (O : Nat → Option va_E) (f d : Nat) : ∀ (n : Nat) (v0 : Nat) (v1 : Nat) (v2 : Int) (v3 : Int) (v4 : Int) (v5 : Int) (M : xM), xZ oU O (d + 6) 162 7 [(0, .ref v0), (1, .ref v1), (2, .int (yw v2)), (3, .int (yw v3)), (4, .int (yw v4)), (5, .int (yw v5))] [] M (f_Hall_collectOn_7 O f n v0 v1 v2 v3 v4 v5 M) := by
  intro n
  induction n with
  | zero =>
    intro v0 v1 v2 v3 v4 v5 M
    exact xZ.no
  | succ n ih =>
    intro v0 v1 v2 v3 v4 v5 M
    unfold f_Hall_collectOn_7
    refine xZ.adv (me := xm162) hP_162 2 (pc' := 10) (lv' := [(0, .ref v0), (1, .ref v1), (2, .int (yw v2)), (3, .int (yw v3)), (4, .int (yw v4)), (5, .int (yw v5))]) (st' := [.ref v0, .int (yw v5)]) rfl ?_
    refine xZ.k_gR (me := xm162) hP_162 rfl (fun x1 => ?_)
    refine xZ.k_aJN (me := xm162) hP_162 rfl (fun x2 => ?_)
    refine xZ.jc_ge (me := xm162) hP_162 rfl (fun h1 => ?_) (fun h1 => ?_)
    · skip
      exact xZ.retu (me := xm162) hP_162 rfl rfl
    · skip
      refine xZ.adv (me := xm162) hP_162 1 (pc' := 18) (lv' := [(0, .ref v0), (1, .ref v1), (2, .int (yw v2)), (3, .int (yw v3)), (4, .int (yw v4)), (5, .int (yw v5))]) (st' := [.ref v0]) rfl ?_
      refine xZ.k_gR (me := xm162) hP_162 rfl (fun x3 => ?_)
      refine xZ.adv (me := xm162) hP_162 1 (pc' := 23) (lv' := [(0, .ref v0), (1, .ref v1), (2, .int (yw v2)), (3, .int (yw v3)), (4, .int (yw v4)), (5, .int (yw v5))]) (st' := [.int (yw v5), .ref x3]) rfl ?_
      refine xZ.k_aJR (me := xm162) hP_162 rfl (fun x4 => ?_)
      refine xZ.k_gJ (me := xm162) hP_162 rfl (fun x5 => ?_)
      refine xZ.jf_eq (me := xm162) hP_162 rfl (fun h2 => ?_) (fun h2 => ?_)
      · skip
        refine xZ.adv (me := xm162) hP_162 2 (pc' := 7) (lv' := [(5, .int ((yw v5) + (1 : Int32))), (0, .ref v0), (1, .ref v1), (2, .int (yw v2)), (3, .int (yw v3)), (4, .int (yw v4))]) (st' := []) rfl ?_
        refine xZ.eqs (lv2 := [(5, .int (yw (v5 + 1))), (0, .ref v0), (1, .ref v1), (2, .int (yw v2)), (3, .int (yw v3)), (4, .int (yw v4))]) (st2 := []) (by simp only [yl_lit, yL_lit, yw_add, yw_sub, yw_mul, yw_neg, yl_add, yl_sub, yl_mul, cj_and, cj_or, cj_xor, cj_shl, cj_shr, cj_ushr, cj_div, cj_i2c, cj_i2b, cj_dc, ck_and, ck_or, ck_xor, ck_shl, ck_shr, ck_ushr, ck_i2l, ck_l2i, ck_cmp]) rfl ?_
        exact xZ.sub (xsc (.tail _ (.head _)) (xsc (.tail _ (.tail _ (.head _))) (xsc (.tail _ (.tail _ (.tail _ (.head _)))) (xsc (.tail _ (.tail _ (.tail _ (.tail _ (.head _))))) (xsc (.tail _ (.tail _ (.tail _ (.tail _ (.tail _ (.head _)))))) (xsc (.head _) xsn)))))) (show ([5, 0, 1, 2, 3, 4] : List Nat).Nodup from by decide) (ih v0 v1 v2 v3 v4 (v5 + 1) M)
      · skip
        refine xZ.adv (me := xm162) hP_162 5 (pc' := 36) (lv' := [(0, .ref v0), (1, .ref v1), (2, .int (yw v2)), (3, .int (yw v3)), (4, .int (yw v4)), (5, .int (yw v5))]) (st' := [.int (((yw v2) >>> ((yw v5) &&& 31)) &&& (1 : Int32))]) rfl ?_
        refine xZ.eqs (lv2 := [(0, .ref v0), (1, .ref v1), (2, .int (yw v2)), (3, .int (yw v3)), (4, .int (yw v4)), (5, .int (yw v5))]) (st2 := [.int (yw (jand (jshr v2 (jand v5 31)) 1))]) rfl (by simp only [yl_lit, yL_lit, yw_add, yw_sub, yw_mul, yw_neg, yl_add, yl_sub, yl_mul, cj_and, cj_or, cj_xor, cj_shl, cj_shr, cj_ushr, cj_div, cj_i2c, cj_i2b, cj_dc, ck_and, ck_or, ck_xor, ck_shl, ck_shr, ck_ushr, ck_i2l, ck_l2i, ck_cmp]) ?_
        refine xZ.jf_ne (me := xm162) hP_162 rfl (fun h3 => ?_) (fun h3 => ?_)
        · skip
          refine xZ.adv (me := xm162) hP_162 3 (pc' := 7) (lv' := [(5, .int ((yw v5) + (1 : Int32))), (0, .ref v0), (1, .ref v1), (2, .int (yw v2)), (3, .int (yw v3)), (4, .int (yw v4))]) (st' := []) rfl ?_
          refine xZ.eqs (lv2 := [(5, .int (yw (v5 + 1))), (0, .ref v0), (1, .ref v1), (2, .int (yw v2)), (3, .int (yw v3)), (4, .int (yw v4))]) (st2 := []) (by simp only [yl_lit, yL_lit, yw_add, yw_sub, yw_mul, yw_neg, yl_add, yl_sub, yl_mul, cj_and, cj_or, cj_xor, cj_shl, cj_shr, cj_ushr, cj_div, cj_i2c, cj_i2b, cj_dc, ck_and, ck_or, ck_xor, ck_shl, ck_shr, ck_ushr, ck_i2l, ck_l2i, ck_cmp]) rfl ?_
          exact xZ.sub (xsc (.tail _ (.head _)) (xsc (.tail _ (.tail _ (.head _))) (xsc (.tail _ (.tail _ (.tail _ (.head _)))) (xsc (.tail _ (.tail _ (.tail _ (.tail _ (.head _))))) (xsc (.tail _ (.tail _ (.tail _ (.tail _ (.tail _ (.head _)))))) (xsc (.head _) xsn)))))) (show ([5, 0, 1, 2, 3, 4] : List Nat).Nodup from by decide) (ih v0 v1 v2 v3 v4 (v5 + 1) M)
        · skip
          refine xZ.adv (me := xm162) hP_162 1 (pc' := 43) (lv' := [(0, .ref v0), (1, .ref v1), (2, .int (yw v2)), (3, .int (yw v3)), (4, .int (yw v4)), (5, .int (yw v5))]) (st' := [.ref v0]) rfl ?_
          refine xZ.k_gR (me := xm162) hP_162 rfl (fun x6 => ?_)
          refine xZ.adv (me := xm162) hP_162 1 (pc' := 48) (lv' := [(0, .ref v0), (1, .ref v1), (2, .int (yw v2)), (3, .int (yw v3)), (4, .int (yw v4)), (5, .int (yw v5))]) (st' := [.int (yw v5), .ref x6]) rfl ?_
          refine xZ.k_aJR (me := xm162) hP_162 rfl (fun x7 => ?_)
          refine xZ.adv (me := xm162) hP_162 5 (pc' := 55) (lv' := [(0, .ref v0), (1, .ref v1), (2, .int (yw v2)), (3, .int (yw v3)), (4, .int (yw v4)), (5, .int (yw v5))]) (st' := [.ref v0, .ref v0, .int (0 : Int32), .int (yw v5), .ref v1, .ref x7]) rfl ?_
          refine xZ.eqs (lv2 := [(0, .ref v0), (1, .ref v1), (2, .int (yw v2)), (3, .int (yw v3)), (4, .int (yw v4)), (5, .int (yw v5))]) (st2 := [.ref v0, .ref v0, .int (yw 0), .int (yw v5), .ref v1, .ref x7]) rfl (by simp only [yl_lit, yL_lit, yw_add, yw_sub, yw_mul, yw_neg, yl_add, yl_sub, yl_mul, cj_and, cj_or, cj_xor, cj_shl, cj_shr, cj_ushr, cj_div, cj_i2c, cj_i2b, cj_dc, ck_and, ck_or, ck_xor, ck_shl, ck_shr, ck_ushr, ck_i2l, ck_l2i, ck_cmp]) ?_
          refine xZ.k_gR (me := xm162) hP_162 rfl (fun x8 => ?_)
          refine xZ.adv (me := xm162) hP_162 1 (pc' := 60) (lv' := [(0, .ref v0), (1, .ref v1), (2, .int (yw v2)), (3, .int (yw v3)), (4, .int (yw v4)), (5, .int (yw v5))]) (st' := [.int (yw v5), .ref x8, .ref v0, .int (yw 0), .int (yw v5), .ref v1, .ref x7]) rfl ?_
          refine xZ.k_aJR (me := xm162) hP_162 rfl (fun x9 => ?_)
          refine xZ.callv (κ := oR) (av := [.ref x9]) (rest := [.int (yw 0), .int (yw v5), .ref v1, .ref x7]) (st' := fun x10 => [.ref x10, .int (yw 0), .int (yw v5), .ref v1, .ref x7]) (k0 := v0) (me := xm162) hP_162 rfl (Or.inl rfl) ⟨rfl, by decide⟩ rfl rfl (Nat.le_of_ble_eq_true rfl) (by decide) hP_102 (Nat.le_of_ble_eq_true rfl) (fun _ => rfl) (k_f_Hall_zoneOf O f (d + 4) v0 x9 M) (fun x10 M1 => ?_)
          refine xZ.adv (me := xm162) hP_162 2 (pc' := 66) (lv' := [(0, .ref v0), (1, .ref v1), (2, .int (yw v2)), (3, .int (yw v3)), (4, .int (yw v4)), (5, .int (yw v5))]) (st' := [.ref v0, .int (yw v3), .ref x10, .int (yw 0), .int (yw v5), .ref v1, .ref x7]) rfl ?_
          refine xZ.k_gR (me := xm162) hP_162 rfl (fun x11 => ?_)
          refine xZ.adv (me := xm162) hP_162 1 (pc' := 71) (lv' := [(0, .ref v0), (1, .ref v1), (2, .int (yw v2)), (3, .int (yw v3)), (4, .int (yw v4)), (5, .int (yw v5))]) (st' := [.int (yw v5), .ref x11, .int (yw v3), .ref x10, .int (yw 0), .int (yw v5), .ref v1, .ref x7]) rfl ?_
          refine xZ.k_aJR (me := xm162) hP_162 rfl (fun x12 => ?_)
          refine xZ.k_gJ (me := xm162) hP_162 rfl (fun x13 => ?_)
          refine xZ.adv (me := xm162) hP_162 4 (pc' := 80) (lv' := [(0, .ref v0), (1, .ref v1), (2, .int (yw v2)), (3, .int (yw v3)), (4, .int (yw v4)), (5, .int (yw v5))]) (st' := [.int (yw v4), .int (((yw v3) - (yw x13)) + (1 : Int32)), .ref x10, .int (yw 0), .int (yw v5), .ref v1, .ref x7]) rfl ?_
          refine xZ.eqs (lv2 := [(0, .ref v0), (1, .ref v1), (2, .int (yw v2)), (3, .int (yw v3)), (4, .int (yw v4)), (5, .int (yw v5))]) (st2 := [.int (yw v4), .int (yw ((v3 - x13) + 1)), .ref x10, .int (yw 0), .int (yw v5), .ref v1, .ref x7]) rfl (by simp only [yl_lit, yL_lit, yw_add, yw_sub, yw_mul, yw_neg, yl_add, yl_sub, yl_mul, cj_and, cj_or, cj_xor, cj_shl, cj_shr, cj_ushr, cj_div, cj_i2c, cj_i2b, cj_dc, ck_and, ck_or, ck_xor, ck_shl, ck_shr, ck_ushr, ck_i2l, ck_l2i, ck_cmp]) ?_
          refine xZ.callv (κ := oU) (av := [.ref v1, .int (yw v5), .int (yw 0), .ref x10, .int (yw ((v3 - x13) + 1)), .int (yw v4)]) (rest := []) (st' := fun _ => []) (k0 := x7) (me := xm162) hP_162 rfl (Or.inl rfl) ⟨rfl, by decide⟩ rfl rfl (Nat.le_of_ble_eq_true rfl) (by decide) hP_164 (Nat.le_of_ble_eq_true rfl) (fun _ => rfl) (k_f_Series_addRows O f (d + 0) x7 v1 v5 0 x10 ((v3 - x13) + 1) v4 M1) (fun _ M2 => ?_)
          refine xZ.adv (me := xm162) hP_162 2 (pc' := 7) (lv' := [(5, .int ((yw v5) + (1 : Int32))), (0, .ref v0), (1, .ref v1), (2, .int (yw v2)), (3, .int (yw v3)), (4, .int (yw v4))]) (st' := []) rfl ?_
          refine xZ.eqs (lv2 := [(5, .int (yw (v5 + 1))), (0, .ref v0), (1, .ref v1), (2, .int (yw v2)), (3, .int (yw v3)), (4, .int (yw v4))]) (st2 := []) (by simp only [yl_lit, yL_lit, yw_add, yw_sub, yw_mul, yw_neg, yl_add, yl_sub, yl_mul, cj_and, cj_or, cj_xor, cj_shl, cj_shr, cj_ushr, cj_div, cj_i2c, cj_i2b, cj_dc, ck_and, ck_or, ck_xor, ck_shl, ck_shr, ck_ushr, ck_i2l, ck_l2i, ck_cmp]) rfl ?_
          exact xZ.sub (xsc (.tail _ (.head _)) (xsc (.tail _ (.tail _ (.head _))) (xsc (.tail _ (.tail _ (.tail _ (.head _)))) (xsc (.tail _ (.tail _ (.tail _ (.tail _ (.head _))))) (xsc (.tail _ (.tail _ (.tail _ (.tail _ (.tail _ (.head _)))))) (xsc (.head _) xsn)))))) (show ([5, 0, 1, 2, 3, 4] : List Nat).Nodup from by decide) (ih v0 v1 v2 v3 v4 (v5 + 1) M2)
def f_Hall_collectOn (O : Nat → Option va_E) (f : Nat) (v0 : Nat) (v1 : Nat) (v2 : Int) (v3 : Int) (v4 : Int) (M : xM) : Option (Unit × xM) :=
  (isO O M v1 2).bind fun _ =>
  xcl (f_Dates_clear O f v1 M) fun _ M1 =>
  f_Hall_collectOn_7 O f f v0 v1 v2 v3 v4 0 M1
set_option maxRecDepth 20000 in
theorem k_f_Hall_collectOn (O : Nat → Option va_E) (f d : Nat) (v0 : Nat) (v1 : Nat) (v2 : Int) (v3 : Int) (v4 : Int) (M : xM) : xZ oU O (d + 6) 162 0 [(0, .ref v0), (1, .ref v1), (2, .int (yw v2)), (3, .int (yw v3)), (4, .int (yw v4))] [] M (f_Hall_collectOn O f v0 v1 v2 v3 v4 M) := by
  unfold f_Hall_collectOn
  refine xZ.adv (me := xm162) hP_162 1 (pc' := 1) (lv' := [(0, .ref v0), (1, .ref v1), (2, .int (yw v2)), (3, .int (yw v3)), (4, .int (yw v4))]) (st' := [.ref v1]) rfl ?_
  refine xZ.callv (κ := oU) (av := []) (rest := []) (st' := fun _ => []) (k0 := v1) (me := xm162) hP_162 rfl (Or.inl rfl) ⟨rfl, by decide⟩ rfl rfl (Nat.le_of_ble_eq_true rfl) (by decide) hP_163 (Nat.le_of_ble_eq_true rfl) (fun _ => rfl) (k_f_Dates_clear O f (d + 5) v1 M) (fun _ M1 => ?_)
  refine xZ.adv (me := xm162) hP_162 2 (pc' := 7) (lv' := [(5, .int (0 : Int32)), (0, .ref v0), (1, .ref v1), (2, .int (yw v2)), (3, .int (yw v3)), (4, .int (yw v4))]) (st' := []) rfl ?_
  refine xZ.eqs (lv2 := [(5, .int (yw 0)), (0, .ref v0), (1, .ref v1), (2, .int (yw v2)), (3, .int (yw v3)), (4, .int (yw v4))]) (st2 := []) (by simp only [yl_lit, yL_lit, yw_add, yw_sub, yw_mul, yw_neg, yl_add, yl_sub, yl_mul, cj_and, cj_or, cj_xor, cj_shl, cj_shr, cj_ushr, cj_div, cj_i2c, cj_i2b, cj_dc, ck_and, ck_or, ck_xor, ck_shl, ck_shr, ck_ushr, ck_i2l, ck_l2i, ck_cmp]) rfl ?_
  exact xZ.sub (xsc (.tail _ (.head _)) (xsc (.tail _ (.tail _ (.head _))) (xsc (.tail _ (.tail _ (.tail _ (.head _)))) (xsc (.tail _ (.tail _ (.tail _ (.tail _ (.head _))))) (xsc (.tail _ (.tail _ (.tail _ (.tail _ (.tail _ (.head _)))))) (xsc (.head _) xsn)))))) (show ([5, 0, 1, 2, 3, 4] : List Nat).Nodup from by decide) (k_f_Hall_collectOn_7 O f d f v0 v1 v2 v3 v4 0 M1)
def f_Dates_minuteOf (O : Nat → Option va_E) (f : Nat) (v0 : Int) (M : xM) : Option (Int × xM) :=
  some ((kshr v0 (kand (ki2l 23) 63)), M)
set_option maxRecDepth 20000 in
theorem k_f_Dates_minuteOf (O : Nat → Option va_E) (f d : Nat) (v0 : Int) (M : xM) : xZ oJ O (d + 0) 172 0 [(0, .long (yl v0))] [] M (f_Dates_minuteOf O f v0 M) := by
  unfold f_Dates_minuteOf
  refine xZ.adv (me := xm172) hP_172 4 (pc' := 5) (lv' := [(0, .long (yl v0))]) (st' := [.int (Int64.toInt32 ((yl v0) >>> (Int32.toInt64 (23 : Int32) &&& 63)))]) rfl ?_
  refine xZ.eqs (lv2 := [(0, .long (yl v0))]) (st2 := [.int (yw (kshr v0 (kand (ki2l 23) 63)))]) rfl (by simp only [yl_lit, yL_lit, yw_add, yw_sub, yw_mul, yw_neg, yl_add, yl_sub, yl_mul, cj_and, cj_or, cj_xor, cj_shl, cj_shr, cj_ushr, cj_div, cj_i2c, cj_i2b, cj_dc, ck_and, ck_or, ck_xor, ck_shl, ck_shr, ck_ushr, ck_i2l, ck_l2i, ck_cmp]) ?_
  exact xZ.jreti (me := xm172) hP_172 rfl rfl
def f_Dates_beginAt (O : Nat → Option va_E) (f : Nat) (v0 : Nat) (v1 : Int) (M : xM) : Option (Int × xM) :=
  (isO O M v0 2).bind fun _ =>
  xcl (f_Dates_rowAt O f v0 v1 M) fun x1 M1 =>
  xcl (f_Dates_minuteOf O f x1 M1) fun x2 M2 =>
  some (x2, M2)
set_option maxRecDepth 20000 in
theorem k_f_Dates_beginAt (O : Nat → Option va_E) (f d : Nat) (v0 : Nat) (v1 : Int) (M : xM) : xZ oJ O (d + 1) 171 0 [(0, .ref v0), (1, .int (yw v1))] [] M (f_Dates_beginAt O f v0 v1 M) := by
  unfold f_Dates_beginAt
  refine xZ.adv (me := xm171) hP_171 2 (pc' := 2) (lv' := [(0, .ref v0), (1, .int (yw v1))]) (st' := [.int (yw v1), .ref v0]) rfl ?_
  refine xZ.callv (κ := oK) (av := [.int (yw v1)]) (rest := []) (st' := fun x1 => [.long (yl x1)]) (k0 := v0) (me := xm171) hP_171 rfl (Or.inl rfl) ⟨rfl, by decide⟩ rfl rfl (Nat.le_of_ble_eq_true rfl) (by decide) hP_167 (Nat.le_of_ble_eq_true rfl) (fun _ => rfl) (k_f_Dates_rowAt O f (d + 0) v0 v1 M) (fun x1 M1 => ?_)
  refine xZ.calls (κ := oJ) (av := [.long (yl x1)]) (rest := []) (st' := fun x2 => [.int (yw x2)]) (me := xm171) hP_171 rfl rfl rfl (Nat.le_of_ble_eq_true rfl) (by decide) hP_172 (Nat.le_of_ble_eq_true rfl) (fun _ => rfl) (k_f_Dates_minuteOf O f (d + 0) x1 M1) (fun x2 M2 => ?_)
  exact xZ.jreti (me := xm171) hP_171 rfl rfl
def f_Dates_numberOf (O : Nat → Option va_E) (f : Nat) (v0 : Int) (M : xM) : Option (Int × xM) :=
  some ((jand (kshr v0 (kand (ki2l 19) 63)) 15), M)
set_option maxRecDepth 20000 in
theorem k_f_Dates_numberOf (O : Nat → Option va_E) (f d : Nat) (v0 : Int) (M : xM) : xZ oJ O (d + 0) 174 0 [(0, .long (yl v0))] [] M (f_Dates_numberOf O f v0 M) := by
  unfold f_Dates_numberOf
  refine xZ.adv (me := xm174) hP_174 6 (pc' := 8) (lv' := [(0, .long (yl v0))]) (st' := [.int ((Int64.toInt32 ((yl v0) >>> (Int32.toInt64 (19 : Int32) &&& 63))) &&& (15 : Int32))]) rfl ?_
  refine xZ.eqs (lv2 := [(0, .long (yl v0))]) (st2 := [.int (yw (jand (kshr v0 (kand (ki2l 19) 63)) 15))]) rfl (by simp only [yl_lit, yL_lit, yw_add, yw_sub, yw_mul, yw_neg, yl_add, yl_sub, yl_mul, cj_and, cj_or, cj_xor, cj_shl, cj_shr, cj_ushr, cj_div, cj_i2c, cj_i2b, cj_dc, ck_and, ck_or, ck_xor, ck_shl, ck_shr, ck_ushr, ck_i2l, ck_l2i, ck_cmp]) ?_
  exact xZ.jreti (me := xm174) hP_174 rfl rfl
def f_Dates_lengthAt (O : Nat → Option va_E) (f : Nat) (v0 : Nat) (v1 : Int) (M : xM) : Option (Int × xM) :=
  (gR O M v0 2 2).bind fun x1 =>
  (isO O M v0 2).bind fun _ =>
  xcl (f_Dates_rowAt O f v0 v1 M) fun x2 M1 =>
  xcl (f_Dates_numberOf O f x2 M1) fun x3 M2 =>
  (aJ O M2 x1 x3).bind fun x4 =>
  some (x4, M2)
set_option maxRecDepth 20000 in
theorem k_f_Dates_lengthAt (O : Nat → Option va_E) (f d : Nat) (v0 : Nat) (v1 : Int) (M : xM) : xZ oJ O (d + 1) 173 0 [(0, .ref v0), (1, .int (yw v1))] [] M (f_Dates_lengthAt O f v0 v1 M) := by
  unfold f_Dates_lengthAt
  refine xZ.adv (me := xm173) hP_173 1 (pc' := 1) (lv' := [(0, .ref v0), (1, .int (yw v1))]) (st' := [.ref v0]) rfl ?_
  refine xZ.k_gR (me := xm173) hP_173 rfl (fun x1 => ?_)
  refine xZ.adv (me := xm173) hP_173 2 (pc' := 6) (lv' := [(0, .ref v0), (1, .int (yw v1))]) (st' := [.int (yw v1), .ref v0, .ref x1]) rfl ?_
  refine xZ.callv (κ := oK) (av := [.int (yw v1)]) (rest := [.ref x1]) (st' := fun x2 => [.long (yl x2), .ref x1]) (k0 := v0) (me := xm173) hP_173 rfl (Or.inl rfl) ⟨rfl, by decide⟩ rfl rfl (Nat.le_of_ble_eq_true rfl) (by decide) hP_167 (Nat.le_of_ble_eq_true rfl) (fun _ => rfl) (k_f_Dates_rowAt O f (d + 0) v0 v1 M) (fun x2 M1 => ?_)
  refine xZ.calls (κ := oJ) (av := [.long (yl x2)]) (rest := [.ref x1]) (st' := fun x3 => [.int (yw x3), .ref x1]) (me := xm173) hP_173 rfl rfl rfl (Nat.le_of_ble_eq_true rfl) (by decide) hP_174 (Nat.le_of_ble_eq_true rfl) (fun _ => rfl) (k_f_Dates_numberOf O f (d + 0) x2 M1) (fun x3 M2 => ?_)
  refine xZ.k_aJ (me := xm173) hP_173 rfl (fun x4 => ?_)
  exact xZ.jreti (me := xm173) hP_173 rfl rfl
def f_Dates_endAt (O : Nat → Option va_E) (f : Nat) (v0 : Nat) (v1 : Int) (M : xM) : Option (Int × xM) :=
  (isO O M v0 2).bind fun _ =>
  xcl (f_Dates_beginAt O f v0 v1 M) fun x1 M1 =>
  (isO O M1 v0 2).bind fun _ =>
  xcl (f_Dates_lengthAt O f v0 v1 M1) fun x2 M2 =>
  some ((x1 + x2), M2)
set_option maxRecDepth 20000 in
theorem k_f_Dates_endAt (O : Nat → Option va_E) (f d : Nat) (v0 : Nat) (v1 : Int) (M : xM) : xZ oJ O (d + 2) 170 0 [(0, .ref v0), (1, .int (yw v1))] [] M (f_Dates_endAt O f v0 v1 M) := by
  unfold f_Dates_endAt
  refine xZ.adv (me := xm170) hP_170 2 (pc' := 2) (lv' := [(0, .ref v0), (1, .int (yw v1))]) (st' := [.int (yw v1), .ref v0]) rfl ?_
  refine xZ.callv (κ := oJ) (av := [.int (yw v1)]) (rest := []) (st' := fun x1 => [.int (yw x1)]) (k0 := v0) (me := xm170) hP_170 rfl (Or.inl rfl) ⟨rfl, by decide⟩ rfl rfl (Nat.le_of_ble_eq_true rfl) (by decide) hP_171 (Nat.le_of_ble_eq_true rfl) (fun _ => rfl) (k_f_Dates_beginAt O f (d + 0) v0 v1 M) (fun x1 M1 => ?_)
  refine xZ.adv (me := xm170) hP_170 2 (pc' := 7) (lv' := [(0, .ref v0), (1, .int (yw v1))]) (st' := [.int (yw v1), .ref v0, .int (yw x1)]) rfl ?_
  refine xZ.callv (κ := oJ) (av := [.int (yw v1)]) (rest := [.int (yw x1)]) (st' := fun x2 => [.int (yw x2), .int (yw x1)]) (k0 := v0) (me := xm170) hP_170 rfl (Or.inl rfl) ⟨rfl, by decide⟩ rfl rfl (Nat.le_of_ble_eq_true rfl) (by decide) hP_173 (Nat.le_of_ble_eq_true rfl) (fun _ => rfl) (k_f_Dates_lengthAt O f (d + 0) v0 v1 M1) (fun x2 M2 => ?_)
  refine xZ.adv (me := xm170) hP_170 1 (pc' := 11) (lv' := [(0, .ref v0), (1, .int (yw v1))]) (st' := [.int ((yw x1) + (yw x2))]) rfl ?_
  refine xZ.eqs (lv2 := [(0, .ref v0), (1, .int (yw v1))]) (st2 := [.int (yw (x1 + x2))]) rfl (by simp only [yl_lit, yL_lit, yw_add, yw_sub, yw_mul, yw_neg, yl_add, yl_sub, yl_mul, cj_and, cj_or, cj_xor, cj_shl, cj_shr, cj_ushr, cj_div, cj_i2c, cj_i2b, cj_dc, ck_and, ck_or, ck_xor, ck_shl, ck_shr, ck_ushr, ck_i2l, ck_l2i, ck_cmp]) ?_
  exact xZ.jreti (me := xm170) hP_170 rfl rfl
def f_Dates_onFrom_2 (O : Nat → Option va_E) (f : Nat) : Nat → Nat → Int → Int → xM → Option (Int × xM)
  | 0, _, _, _, _ => none
  | n + 1, v0, v1, v2, M =>
    (gJ O M v0 2 0).bind fun x1 =>
    if yw x1 ≤ yw v2 then (
      some (1000000000, M)
    ) else
    (isO O M v0 2).bind fun _ =>
    xcl (f_Dates_endAt O f v0 v2 M) fun x2 M1 =>
    if yw x2 ≤ yw v1 then (
      f_Dates_onFrom_2 O f n v0 v1 (v2 + 1) M1
    ) else
    (isO O M1 v0 2).bind fun _ =>
    xcl (f_Dates_beginAt O f v0 v2 M1) fun x3 M2 =>
    xcl (f_Math_max O f v1 x3 M2) fun x4 M3 =>
    some (x4, M3)
set_option maxRecDepth 20000 in
theorem k_f_Dates_onFrom_2 (O : Nat → Option va_E) (f d : Nat) : ∀ (n : Nat) (v0 : Nat) (v1 : Int) (v2 : Int) (M : xM), xZ oJ O (d + 3) 169 2 [(0, .ref v0), (1, .int (yw v1)), (2, .int (yw v2))] [] M (f_Dates_onFrom_2 O f n v0 v1 v2 M) := by
  intro n
  induction n with
  | zero =>
    intro v0 v1 v2 M
    exact xZ.no
  | succ n ih =>
    intro v0 v1 v2 M
    unfold f_Dates_onFrom_2
    refine xZ.adv (me := xm169) hP_169 2 (pc' := 4) (lv' := [(0, .ref v0), (1, .int (yw v1)), (2, .int (yw v2))]) (st' := [.ref v0, .int (yw v2)]) rfl ?_
    refine xZ.k_gJ (me := xm169) hP_169 rfl (fun x1 => ?_)
    refine xZ.jc_ge (me := xm169) hP_169 rfl (fun h1 => ?_) (fun h1 => ?_)
    · skip
      refine xZ.adv (me := xm169) hP_169 1 (pc' := 37) (lv' := [(0, .ref v0), (1, .int (yw v1)), (2, .int (yw v2))]) (st' := [.int (1000000000 : Int32)]) rfl ?_
      refine xZ.eqs (lv2 := [(0, .ref v0), (1, .int (yw v1)), (2, .int (yw v2))]) (st2 := [.int (yw 1000000000)]) rfl (by simp only [yl_lit, yL_lit, yw_add, yw_sub, yw_mul, yw_neg, yl_add, yl_sub, yl_mul, cj_and, cj_or, cj_xor, cj_shl, cj_shr, cj_ushr, cj_div, cj_i2c, cj_i2b, cj_dc, ck_and, ck_or, ck_xor, ck_shl, ck_shr, ck_ushr, ck_i2l, ck_l2i, ck_cmp]) ?_
      exact xZ.jreti (me := xm169) hP_169 rfl rfl
    · skip
      refine xZ.adv (me := xm169) hP_169 2 (pc' := 12) (lv' := [(0, .ref v0), (1, .int (yw v1)), (2, .int (yw v2))]) (st' := [.int (yw v2), .ref v0]) rfl ?_
      refine xZ.callv (κ := oJ) (av := [.int (yw v2)]) (rest := []) (st' := fun x2 => [.int (yw x2)]) (k0 := v0) (me := xm169) hP_169 rfl (Or.inl rfl) ⟨rfl, by decide⟩ rfl rfl (Nat.le_of_ble_eq_true rfl) (by decide) hP_170 (Nat.le_of_ble_eq_true rfl) (fun _ => rfl) (k_f_Dates_endAt O f (d + 0) v0 v2 M) (fun x2 M1 => ?_)
      refine xZ.adv (me := xm169) hP_169 1 (pc' := 16) (lv' := [(0, .ref v0), (1, .int (yw v1)), (2, .int (yw v2))]) (st' := [.int (yw v1), .int (yw x2)]) rfl ?_
      refine xZ.jc_le (me := xm169) hP_169 rfl (fun h2 => ?_) (fun h2 => ?_)
      · skip
        refine xZ.adv (me := xm169) hP_169 2 (pc' := 2) (lv' := [(2, .int ((yw v2) + (1 : Int32))), (0, .ref v0), (1, .int (yw v1))]) (st' := []) rfl ?_
        refine xZ.eqs (lv2 := [(2, .int (yw (v2 + 1))), (0, .ref v0), (1, .int (yw v1))]) (st2 := []) (by simp only [yl_lit, yL_lit, yw_add, yw_sub, yw_mul, yw_neg, yl_add, yl_sub, yl_mul, cj_and, cj_or, cj_xor, cj_shl, cj_shr, cj_ushr, cj_div, cj_i2c, cj_i2b, cj_dc, ck_and, ck_or, ck_xor, ck_shl, ck_shr, ck_ushr, ck_i2l, ck_l2i, ck_cmp]) rfl ?_
        exact xZ.sub (xsc (.tail _ (.head _)) (xsc (.tail _ (.tail _ (.head _))) (xsc (.head _) xsn))) (show ([2, 0, 1] : List Nat).Nodup from by decide) (ih v0 v1 (v2 + 1) M1)
      · skip
        refine xZ.adv (me := xm169) hP_169 3 (pc' := 22) (lv' := [(0, .ref v0), (1, .int (yw v1)), (2, .int (yw v2))]) (st' := [.int (yw v2), .ref v0, .int (yw v1)]) rfl ?_
        refine xZ.callv (κ := oJ) (av := [.int (yw v2)]) (rest := [.int (yw v1)]) (st' := fun x3 => [.int (yw x3), .int (yw v1)]) (k0 := v0) (me := xm169) hP_169 rfl (Or.inl rfl) ⟨rfl, by decide⟩ rfl rfl (Nat.le_of_ble_eq_true rfl) (by decide) hP_171 (Nat.le_of_ble_eq_true rfl) (fun _ => rfl) (k_f_Dates_beginAt O f (d + 1) v0 v2 M1) (fun x3 M2 => ?_)
        refine xZ.calls (κ := oJ) (av := [.int (yw v1), .int (yw x3)]) (rest := []) (st' := fun x4 => [.int (yw x4)]) (me := xm169) hP_169 rfl rfl rfl (Nat.le_of_ble_eq_true rfl) (by decide) hP_247 (Nat.le_of_ble_eq_true rfl) (fun _ => rfl) (k_f_Math_max O f (d + 2) v1 x3 M2) (fun x4 M3 => ?_)
        exact xZ.jreti (me := xm169) hP_169 rfl rfl
def f_Dates_onFrom (O : Nat → Option va_E) (f : Nat) (v0 : Nat) (v1 : Int) (M : xM) : Option (Int × xM) :=
  f_Dates_onFrom_2 O f f v0 v1 0 M
set_option maxRecDepth 20000 in
theorem k_f_Dates_onFrom (O : Nat → Option va_E) (f d : Nat) (v0 : Nat) (v1 : Int) (M : xM) : xZ oJ O (d + 3) 169 0 [(0, .ref v0), (1, .int (yw v1))] [] M (f_Dates_onFrom O f v0 v1 M) := by
  unfold f_Dates_onFrom
  refine xZ.adv (me := xm169) hP_169 2 (pc' := 2) (lv' := [(2, .int (0 : Int32)), (0, .ref v0), (1, .int (yw v1))]) (st' := []) rfl ?_
  refine xZ.eqs (lv2 := [(2, .int (yw 0)), (0, .ref v0), (1, .int (yw v1))]) (st2 := []) (by simp only [yl_lit, yL_lit, yw_add, yw_sub, yw_mul, yw_neg, yl_add, yl_sub, yl_mul, cj_and, cj_or, cj_xor, cj_shl, cj_shr, cj_ushr, cj_div, cj_i2c, cj_i2b, cj_dc, ck_and, ck_or, ck_xor, ck_shl, ck_shr, ck_ushr, ck_i2l, ck_l2i, ck_cmp]) rfl ?_
  exact xZ.sub (xsc (.tail _ (.head _)) (xsc (.tail _ (.tail _ (.head _))) (xsc (.head _) xsn))) (show ([2, 0, 1] : List Nat).Nodup from by decide) (k_f_Dates_onFrom_2 O f d f v0 v1 0 M)
def f_Person_isWorkDay (O : Nat → Option va_E) (f : Nat) (v0 : Nat) (v1 : Int) (M : xM) : Option (Int × xM) :=
  (gJ O M v0 6 1).bind fun x1 =>
  xcl (f_Days_weekdayOf O f v1 M) fun x2 M1 =>
  if yw (jand (jshr x1 (jand x2 31)) 1) = yw 1 then (
    some (1, M1)
  ) else
  some (0, M1)
set_option maxRecDepth 20000 in
theorem k_f_Person_isWorkDay (O : Nat → Option va_E) (f d : Nat) (v0 : Nat) (v1 : Int) (M : xM) : xZ oJ O (d + 1) 176 0 [(0, .ref v0), (1, .int (yw v1))] [] M (f_Person_isWorkDay O f v0 v1 M) := by
  unfold f_Person_isWorkDay
  refine xZ.adv (me := xm176) hP_176 1 (pc' := 1) (lv' := [(0, .ref v0), (1, .int (yw v1))]) (st' := [.ref v0]) rfl ?_
  refine xZ.k_gJ (me := xm176) hP_176 rfl (fun x1 => ?_)
  refine xZ.adv (me := xm176) hP_176 1 (pc' := 5) (lv' := [(0, .ref v0), (1, .int (yw v1))]) (st' := [.int (yw v1), .int (yw x1)]) rfl ?_
  refine xZ.calls (κ := oJ) (av := [.int (yw v1)]) (rest := [.int (yw x1)]) (st' := fun x2 => [.int (yw x2), .int (yw x1)]) (me := xm176) hP_176 rfl rfl rfl (Nat.le_of_ble_eq_true rfl) (by decide) hP_49 (Nat.le_of_ble_eq_true rfl) (fun _ => rfl) (k_f_Days_weekdayOf O f (d + 0) v1 M) (fun x2 M1 => ?_)
  refine xZ.adv (me := xm176) hP_176 4 (pc' := 12) (lv' := [(0, .ref v0), (1, .int (yw v1))]) (st' := [.int (1 : Int32), .int (((yw x1) >>> ((yw x2) &&& 31)) &&& (1 : Int32))]) rfl ?_
  refine xZ.eqs (lv2 := [(0, .ref v0), (1, .int (yw v1))]) (st2 := [.int (yw 1), .int (yw (jand (jshr x1 (jand x2 31)) 1))]) rfl (by simp only [yl_lit, yL_lit, yw_add, yw_sub, yw_mul, yw_neg, yl_add, yl_sub, yl_mul, cj_and, cj_or, cj_xor, cj_shl, cj_shr, cj_ushr, cj_div, cj_i2c, cj_i2b, cj_dc, ck_and, ck_or, ck_xor, ck_shl, ck_shr, ck_ushr, ck_i2l, ck_l2i, ck_cmp]) ?_
  refine xZ.jc_ne (me := xm176) hP_176 rfl (fun h1 => ?_) (fun h1 => ?_)
  · skip
    refine xZ.adv (me := xm176) hP_176 2 (pc' := 20) (lv' := [(0, .ref v0), (1, .int (yw v1))]) (st' := [.int (1 : Int32)]) rfl ?_
    refine xZ.eqs (lv2 := [(0, .ref v0), (1, .int (yw v1))]) (st2 := [.int (yw 1)]) rfl (by simp only [yl_lit, yL_lit, yw_add, yw_sub, yw_mul, yw_neg, yl_add, yl_sub, yl_mul, cj_and, cj_or, cj_xor, cj_shl, cj_shr, cj_ushr, cj_div, cj_i2c, cj_i2b, cj_dc, ck_and, ck_or, ck_xor, ck_shl, ck_shr, ck_ushr, ck_i2l, ck_l2i, ck_cmp]) ?_
    exact xZ.jrete (me := xm176) hP_176 rfl rfl rfl
  · skip
    refine xZ.adv (me := xm176) hP_176 1 (pc' := 20) (lv' := [(0, .ref v0), (1, .int (yw v1))]) (st' := [.int (0 : Int32)]) rfl ?_
    refine xZ.eqs (lv2 := [(0, .ref v0), (1, .int (yw v1))]) (st2 := [.int (yw 0)]) rfl (by simp only [yl_lit, yL_lit, yw_add, yw_sub, yw_mul, yw_neg, yl_add, yl_sub, yl_mul, cj_and, cj_or, cj_xor, cj_shl, cj_shr, cj_ushr, cj_div, cj_i2c, cj_i2b, cj_dc, ck_and, ck_or, ck_xor, ck_shl, ck_shr, ck_ushr, ck_i2l, ck_l2i, ck_cmp]) ?_
    exact xZ.jrete (me := xm176) hP_176 rfl rfl rfl
def f_Zone_nextSwitch_103 (O : Nat → Option va_E) (f : Nat) (K31 : Nat → Int → Int → Int → xM → Option (Int × xM)) (v0 : Nat) (v2 : Int) (v3 : Int) (v4 : Int) (v6 : Int) (M : xM) : Option (Int × xM) :=
  if yw v6 ≤ yw v2 then (
    K31 v0 v2 v3 (v4 + 1) M
  ) else
  if yw 1000000000 ≤ yw v6 then (
    K31 v0 v2 v3 (v4 + 1) M
  ) else
  (gJ O M v0 11 0).bind fun x1 =>
  some ((v6 - x1), M)
set_option maxRecDepth 20000 in
theorem k_f_Zone_nextSwitch_103 (O : Nat → Option va_E) (f d : Nat) (K31 : Nat → Int → Int → Int → xM → Option (Int × xM)) (hK31 : ∀ (v0 : Nat) (v2 : Int) (v3 : Int) (v4 : Int) M, xZ oJ O (d + 2) 177 31 [(0, .ref v0), (2, .int (yw v2)), (3, .int (yw v3)), (4, .int (yw v4))] [] M (K31 v0 v2 v3 v4 M)) (v0 : Nat) (v2 : Int) (v3 : Int) (v4 : Int) (v6 : Int) (M : xM) : xZ oJ O (d + 2) 177 103 [(0, .ref v0), (2, .int (yw v2)), (3, .int (yw v3)), (4, .int (yw v4)), (6, .int (yw v6))] [] M (f_Zone_nextSwitch_103 O f K31 v0 v2 v3 v4 v6 M) := by
  unfold f_Zone_nextSwitch_103
  refine xZ.adv (me := xm177) hP_177 2 (pc' := 106) (lv' := [(0, .ref v0), (2, .int (yw v2)), (3, .int (yw v3)), (4, .int (yw v4)), (6, .int (yw v6))]) (st' := [.int (yw v2), .int (yw v6)]) rfl ?_
  refine xZ.jc_le (me := xm177) hP_177 rfl (fun h1 => ?_) (fun h1 => ?_)
  · skip
    refine xZ.adv (me := xm177) hP_177 2 (pc' := 31) (lv' := [(4, .int ((yw v4) + (1 : Int32))), (0, .ref v0), (2, .int (yw v2)), (3, .int (yw v3)), (6, .int (yw v6))]) (st' := []) rfl ?_
    refine xZ.eqs (lv2 := [(4, .int (yw (v4 + 1))), (0, .ref v0), (2, .int (yw v2)), (3, .int (yw v3)), (6, .int (yw v6))]) (st2 := []) (by simp only [yl_lit, yL_lit, yw_add, yw_sub, yw_mul, yw_neg, yl_add, yl_sub, yl_mul, cj_and, cj_or, cj_xor, cj_shl, cj_shr, cj_ushr, cj_div, cj_i2c, cj_i2b, cj_dc, ck_and, ck_or, ck_xor, ck_shl, ck_shr, ck_ushr, ck_i2l, ck_l2i, ck_cmp]) rfl ?_
    exact xZ.sub (xsc (.tail _ (.head _)) (xsc (.tail _ (.tail _ (.head _))) (xsc (.tail _ (.tail _ (.tail _ (.head _)))) (xsc (.head _) xsn)))) (show ([4, 0, 2, 3, 6] : List Nat).Nodup from by decide) (hK31 v0 v2 v3 (v4 + 1) M)
  · skip
    refine xZ.adv (me := xm177) hP_177 2 (pc' := 113) (lv' := [(0, .ref v0), (2, .int (yw v2)), (3, .int (yw v3)), (4, .int (yw v4)), (6, .int (yw v6))]) (st' := [.int (1000000000 : Int32), .int (yw v6)]) rfl ?_
    refine xZ.eqs (lv2 := [(0, .ref v0), (2, .int (yw v2)), (3, .int (yw v3)), (4, .int (yw v4)), (6, .int (yw v6))]) (st2 := [.int (yw 1000000000), .int (yw v6)]) rfl (by simp only [yl_lit, yL_lit, yw_add, yw_sub, yw_mul, yw_neg, yl_add, yl_sub, yl_mul, cj_and, cj_or, cj_xor, cj_shl, cj_shr, cj_ushr, cj_div, cj_i2c, cj_i2b, cj_dc, ck_and, ck_or, ck_xor, ck_shl, ck_shr, ck_ushr, ck_i2l, ck_l2i, ck_cmp]) ?_
    refine xZ.jc_ge (me := xm177) hP_177 rfl (fun h2 => ?_) (fun h2 => ?_)
    · skip
      refine xZ.adv (me := xm177) hP_177 2 (pc' := 31) (lv' := [(4, .int ((yw v4) + (1 : Int32))), (0, .ref v0), (2, .int (yw v2)), (3, .int (yw v3)), (6, .int (yw v6))]) (st' := []) rfl ?_
      refine xZ.eqs (lv2 := [(4, .int (yw (v4 + 1))), (0, .ref v0), (2, .int (yw v2)), (3, .int (yw v3)), (6, .int (yw v6))]) (st2 := []) (by simp only [yl_lit, yL_lit, yw_add, yw_sub, yw_mul, yw_neg, yl_add, yl_sub, yl_mul, cj_and, cj_or, cj_xor, cj_shl, cj_shr, cj_ushr, cj_div, cj_i2c, cj_i2b, cj_dc, ck_and, ck_or, ck_xor, ck_shl, ck_shr, ck_ushr, ck_i2l, ck_l2i, ck_cmp]) rfl ?_
      exact xZ.sub (xsc (.tail _ (.head _)) (xsc (.tail _ (.tail _ (.head _))) (xsc (.tail _ (.tail _ (.tail _ (.head _)))) (xsc (.head _) xsn)))) (show ([4, 0, 2, 3, 6] : List Nat).Nodup from by decide) (hK31 v0 v2 v3 (v4 + 1) M)
    · skip
      refine xZ.adv (me := xm177) hP_177 2 (pc' := 119) (lv' := [(0, .ref v0), (2, .int (yw v2)), (3, .int (yw v3)), (4, .int (yw v4)), (6, .int (yw v6))]) (st' := [.ref v0, .int (yw v6)]) rfl ?_
      refine xZ.k_gJ (me := xm177) hP_177 rfl (fun x1 => ?_)
      refine xZ.adv (me := xm177) hP_177 1 (pc' := 123) (lv' := [(0, .ref v0), (2, .int (yw v2)), (3, .int (yw v3)), (4, .int (yw v4)), (6, .int (yw v6))]) (st' := [.int ((yw v6) - (yw x1))]) rfl ?_
      refine xZ.eqs (lv2 := [(0, .ref v0), (2, .int (yw v2)), (3, .int (yw v3)), (4, .int (yw v4)), (6, .int (yw v6))]) (st2 := [.int (yw (v6 - x1))]) rfl (by simp only [yl_lit, yL_lit, yw_add, yw_sub, yw_mul, yw_neg, yl_add, yl_sub, yl_mul, cj_and, cj_or, cj_xor, cj_shl, cj_shr, cj_ushr, cj_div, cj_i2c, cj_i2b, cj_dc, ck_and, ck_or, ck_xor, ck_shl, ck_shr, ck_ushr, ck_i2l, ck_l2i, ck_cmp]) ?_
      exact xZ.jreti (me := xm177) hP_177 rfl rfl
def f_Zone_nextSwitch_31 (O : Nat → Option va_E) (f : Nat) : Nat → Nat → Int → Int → Int → xM → Option (Int × xM)
  | 0, _, _, _, _, _ => none
  | n + 1, v0, v2, v3, v4, M =>
    if yw 2 ≤ yw v4 then (
      some (1000000000, M)
    ) else
    xlet (((v3 + v4) - (jdiv (v3 + v4) 12) * 12) + 1) fun x1 =>
    (gR O M v0 11 2).bind fun x2 =>
    (aJ O M x2 0).bind fun x3 =>
    if yw x1 = yw x3 then (
      (gR O M v0 11 2).bind fun x4 =>
      xcl (f_Zone_switchIn O f (v3 + v4) x4 M) fun x5 M1 =>
      f_Zone_nextSwitch_103 O f (f_Zone_nextSwitch_31 O f n) v0 v2 v3 v4 x5 M1
    ) else
    (gR O M v0 11 3).bind fun x6 =>
    (aJ O M x6 0).bind fun x7 =>
    if yw x1 = yw x7 then (
      (gR O M v0 11 3).bind fun x8 =>
      xcl (f_Zone_switchIn O f (v3 + v4) x8 M) fun x9 M2 =>
      f_Zone_nextSwitch_103 O f (f_Zone_nextSwitch_31 O f n) v0 v2 v3 v4 x9 M2
    ) else
    f_Zone_nextSwitch_103 O f (f_Zone_nextSwitch_31 O f n) v0 v2 v3 v4 1000000000 M
set_option maxRecDepth 20000 in
theorem k_f_Zone_nextSwitch_31 (O : Nat → Option va_E) (f d : Nat) : ∀ (n : Nat) (v0 : Nat) (v2 : Int) (v3 : Int) (v4 : Int) (M : xM), xZ oJ O (d + 2) 177 31 [(0, .ref v0), (2, .int (yw v2)), (3, .int (yw v3)), (4, .int (yw v4))] [] M (f_Zone_nextSwitch_31 O f n v0 v2 v3 v4 M) := by
  intro n
  induction n with
  | zero =>
    intro v0 v2 v3 v4 M
    exact xZ.no
  | succ n ih =>
    intro v0 v2 v3 v4 M
    unfold f_Zone_nextSwitch_31
    refine xZ.adv (me := xm177) hP_177 2 (pc' := 34) (lv' := [(0, .ref v0), (2, .int (yw v2)), (3, .int (yw v3)), (4, .int (yw v4))]) (st' := [.int (2 : Int32), .int (yw v4)]) rfl ?_
    refine xZ.eqs (lv2 := [(0, .ref v0), (2, .int (yw v2)), (3, .int (yw v3)), (4, .int (yw v4))]) (st2 := [.int (yw 2), .int (yw v4)]) rfl (by simp only [yl_lit, yL_lit, yw_add, yw_sub, yw_mul, yw_neg, yl_add, yl_sub, yl_mul, cj_and, cj_or, cj_xor, cj_shl, cj_shr, cj_ushr, cj_div, cj_i2c, cj_i2b, cj_dc, ck_and, ck_or, ck_xor, ck_shl, ck_shr, ck_ushr, ck_i2l, ck_l2i, ck_cmp]) ?_
    refine xZ.jc_ge (me := xm177) hP_177 rfl (fun h1 => ?_) (fun h1 => ?_)
    · skip
      refine xZ.adv (me := xm177) hP_177 1 (pc' := 132) (lv' := [(0, .ref v0), (2, .int (yw v2)), (3, .int (yw v3)), (4, .int (yw v4))]) (st' := [.int (1000000000 : Int32)]) rfl ?_
      refine xZ.eqs (lv2 := [(0, .ref v0), (2, .int (yw v2)), (3, .int (yw v3)), (4, .int (yw v4))]) (st2 := [.int (yw 1000000000)]) rfl (by simp only [yl_lit, yL_lit, yw_add, yw_sub, yw_mul, yw_neg, yl_add, yl_sub, yl_mul, cj_and, cj_or, cj_xor, cj_shl, cj_shr, cj_ushr, cj_div, cj_i2c, cj_i2b, cj_dc, ck_and, ck_or, ck_xor, ck_shl, ck_shr, ck_ushr, ck_i2l, ck_l2i, ck_cmp]) ?_
      exact xZ.jreti (me := xm177) hP_177 rfl rfl
    · skip
      refine xZ.adv (me := xm177) hP_177 8 (pc' := 48) (lv' := [(5, .int ((((yw v3) + (yw v4)) - ((yw v3) + (yw v4)) / (12 : Int32) * (12 : Int32)) + (1 : Int32))), (0, .ref v0), (2, .int (yw v2)), (3, .int (yw v3)), (4, .int (yw v4))]) (st' := []) rfl ?_
      refine xZ.eqs (lv2 := [(5, .int (yw (((v3 + v4) - (jdiv (v3 + v4) 12) * 12) + 1))), (0, .ref v0), (2, .int (yw v2)), (3, .int (yw v3)), (4, .int (yw v4))]) (st2 := []) (by simp only [yl_lit, yL_lit, yw_add, yw_sub, yw_mul, yw_neg, yl_add, yl_sub, yl_mul, cj_and, cj_or, cj_xor, cj_shl, cj_shr, cj_ushr, cj_div, cj_i2c, cj_i2b, cj_dc, ck_and, ck_or, ck_xor, ck_shl, ck_shr, ck_ushr, ck_i2l, ck_l2i, ck_cmp]) rfl ?_
      refine xZ.letI (v := (((v3 + v4) - (jdiv (v3 + v4) 12) * 12) + 1)) (lvf := fun x1 => [(5, .int (yw x1)), (0, .ref v0), (2, .int (yw v2)), (3, .int (yw v3)), (4, .int (yw v4))]) (stf := fun x1 => []) ?_
      intro x1
      refine xZ.adv (me := xm177) hP_177 4 (pc' := 55) (lv' := [(6, .int (1000000000 : Int32)), (5, .int (yw x1)), (0, .ref v0), (2, .int (yw v2)), (3, .int (yw v3)), (4, .int (yw v4))]) (st' := [.ref v0, .int (yw x1)]) rfl ?_
      refine xZ.eqs (lv2 := [(6, .int (yw 1000000000)), (5, .int (yw x1)), (0, .ref v0), (2, .int (yw v2)), (3, .int (yw v3)), (4, .int (yw v4))]) (st2 := [.ref v0, .int (yw x1)]) (by simp only [yl_lit, yL_lit, yw_add, yw_sub, yw_mul, yw_neg, yl_add, yl_sub, yl_mul, cj_and, cj_or, cj_xor, cj_shl, cj_shr, cj_ushr, cj_div, cj_i2c, cj_i2b, cj_dc, ck_and, ck_or, ck_xor, ck_shl, ck_shr, ck_ushr, ck_i2l, ck_l2i, ck_cmp]) rfl ?_
      refine xZ.k_gR (me := xm177) hP_177 rfl (fun x2 => ?_)
      refine xZ.adv (me := xm177) hP_177 1 (pc' := 59) (lv' := [(6, .int (yw 1000000000)), (5, .int (yw x1)), (0, .ref v0), (2, .int (yw v2)), (3, .int (yw v3)), (4, .int (yw v4))]) (st' := [.int (0 : Int32), .ref x2, .int (yw x1)]) rfl ?_
      refine xZ.eqs (lv2 := [(6, .int (yw 1000000000)), (5, .int (yw x1)), (0, .ref v0), (2, .int (yw v2)), (3, .int (yw v3)), (4, .int (yw v4))]) (st2 := [.int (yw 0), .ref x2, .int (yw x1)]) rfl (by simp only [yl_lit, yL_lit, yw_add, yw_sub, yw_mul, yw_neg, yl_add, yl_sub, yl_mul, cj_and, cj_or, cj_xor, cj_shl, cj_shr, cj_ushr, cj_div, cj_i2c, cj_i2b, cj_dc, ck_and, ck_or, ck_xor, ck_shl, ck_shr, ck_ushr, ck_i2l, ck_l2i, ck_cmp]) ?_
      refine xZ.k_aJ (me := xm177) hP_177 rfl (fun x3 => ?_)
      refine xZ.jc_ne (me := xm177) hP_177 rfl (fun h2 => ?_) (fun h2 => ?_)
      · skip
        refine xZ.adv (me := xm177) hP_177 4 (pc' := 68) (lv' := [(6, .int (yw 1000000000)), (5, .int (yw x1)), (0, .ref v0), (2, .int (yw v2)), (3, .int (yw v3)), (4, .int (yw v4))]) (st' := [.ref v0, .int ((yw v3) + (yw v4))]) rfl ?_
        refine xZ.eqs (lv2 := [(6, .int (yw 1000000000)), (5, .int (yw x1)), (0, .ref v0), (2, .int (yw v2)), (3, .int (yw v3)), (4, .int (yw v4))]) (st2 := [.ref v0, .int (yw (v3 + v4))]) rfl (by simp only [yl_lit, yL_lit, yw_add, yw_sub, yw_mul, yw_neg, yl_add, yl_sub, yl_mul, cj_and, cj_or, cj_xor, cj_shl, cj_shr, cj_ushr, cj_div, cj_i2c, cj_i2b, cj_dc, ck_and, ck_or, ck_xor, ck_shl, ck_shr, ck_ushr, ck_i2l, ck_l2i, ck_cmp]) ?_
        refine xZ.k_gR (me := xm177) hP_177 rfl (fun x4 => ?_)
        refine xZ.calls (κ := oJ) (av := [.int (yw (v3 + v4)), .ref x4]) (rest := []) (st' := fun x5 => [.int (yw x5)]) (me := xm177) hP_177 rfl rfl rfl (Nat.le_of_ble_eq_true rfl) (by decide) hP_107 (Nat.le_of_ble_eq_true rfl) (fun _ => rfl) (k_f_Zone_switchIn O f (d + 0) (v3 + v4) x4 M) (fun x5 M1 => ?_)
        refine xZ.adv (me := xm177) hP_177 2 (pc' := 103) (lv' := [(6, .int (yw x5)), (5, .int (yw x1)), (0, .ref v0), (2, .int (yw v2)), (3, .int (yw v3)), (4, .int (yw v4))]) (st' := []) rfl ?_
        exact xZ.sub (xsc (.tail _ (.tail _ (.head _))) (xsc (.tail _ (.tail _ (.tail _ (.head _)))) (xsc (.tail _ (.tail _ (.tail _ (.tail _ (.head _))))) (xsc (.tail _ (.tail _ (.tail _ (.tail _ (.tail _ (.head _)))))) (xsc (.head _) xsn))))) (show ([6, 5, 0, 2, 3, 4] : List Nat).Nodup from by decide) (k_f_Zone_nextSwitch_103 O f d (f_Zone_nextSwitch_31 O f n) ih v0 v2 v3 v4 x5 M1)
      · skip
        refine xZ.adv (me := xm177) hP_177 2 (pc' := 82) (lv' := [(6, .int (yw 1000000000)), (5, .int (yw x1)), (0, .ref v0), (2, .int (yw v2)), (3, .int (yw v3)), (4, .int (yw v4))]) (st' := [.ref v0, .int (yw x1)]) rfl ?_
        refine xZ.k_gR (me := xm177) hP_177 rfl (fun x6 => ?_)
        refine xZ.adv (me := xm177) hP_177 1 (pc' := 86) (lv' := [(6, .int (yw 1000000000)), (5, .int (yw x1)), (0, .ref v0), (2, .int (yw v2)), (3, .int (yw v3)), (4, .int (yw v4))]) (st' := [.int (0 : Int32), .ref x6, .int (yw x1)]) rfl ?_
        refine xZ.eqs (lv2 := [(6, .int (yw 1000000000)), (5, .int (yw x1)), (0, .ref v0), (2, .int (yw v2)), (3, .int (yw v3)), (4, .int (yw v4))]) (st2 := [.int (yw 0), .ref x6, .int (yw x1)]) rfl (by simp only [yl_lit, yL_lit, yw_add, yw_sub, yw_mul, yw_neg, yl_add, yl_sub, yl_mul, cj_and, cj_or, cj_xor, cj_shl, cj_shr, cj_ushr, cj_div, cj_i2c, cj_i2b, cj_dc, ck_and, ck_or, ck_xor, ck_shl, ck_shr, ck_ushr, ck_i2l, ck_l2i, ck_cmp]) ?_
        refine xZ.k_aJ (me := xm177) hP_177 rfl (fun x7 => ?_)
        refine xZ.jc_ne (me := xm177) hP_177 rfl (fun h3 => ?_) (fun h3 => ?_)
        · skip
          refine xZ.adv (me := xm177) hP_177 4 (pc' := 95) (lv' := [(6, .int (yw 1000000000)), (5, .int (yw x1)), (0, .ref v0), (2, .int (yw v2)), (3, .int (yw v3)), (4, .int (yw v4))]) (st' := [.ref v0, .int ((yw v3) + (yw v4))]) rfl ?_
          refine xZ.eqs (lv2 := [(6, .int (yw 1000000000)), (5, .int (yw x1)), (0, .ref v0), (2, .int (yw v2)), (3, .int (yw v3)), (4, .int (yw v4))]) (st2 := [.ref v0, .int (yw (v3 + v4))]) rfl (by simp only [yl_lit, yL_lit, yw_add, yw_sub, yw_mul, yw_neg, yl_add, yl_sub, yl_mul, cj_and, cj_or, cj_xor, cj_shl, cj_shr, cj_ushr, cj_div, cj_i2c, cj_i2b, cj_dc, ck_and, ck_or, ck_xor, ck_shl, ck_shr, ck_ushr, ck_i2l, ck_l2i, ck_cmp]) ?_
          refine xZ.k_gR (me := xm177) hP_177 rfl (fun x8 => ?_)
          refine xZ.calls (κ := oJ) (av := [.int (yw (v3 + v4)), .ref x8]) (rest := []) (st' := fun x9 => [.int (yw x9)]) (me := xm177) hP_177 rfl rfl rfl (Nat.le_of_ble_eq_true rfl) (by decide) hP_107 (Nat.le_of_ble_eq_true rfl) (fun _ => rfl) (k_f_Zone_switchIn O f (d + 0) (v3 + v4) x8 M) (fun x9 M2 => ?_)
          refine xZ.adv (me := xm177) hP_177 1 (pc' := 103) (lv' := [(6, .int (yw x9)), (5, .int (yw x1)), (0, .ref v0), (2, .int (yw v2)), (3, .int (yw v3)), (4, .int (yw v4))]) (st' := []) rfl ?_
          exact xZ.sub (xsc (.tail _ (.tail _ (.head _))) (xsc (.tail _ (.tail _ (.tail _ (.head _)))) (xsc (.tail _ (.tail _ (.tail _ (.tail _ (.head _))))) (xsc (.tail _ (.tail _ (.tail _ (.tail _ (.tail _ (.head _)))))) (xsc (.head _) xsn))))) (show ([6, 5, 0, 2, 3, 4] : List Nat).Nodup from by decide) (k_f_Zone_nextSwitch_103 O f d (f_Zone_nextSwitch_31 O f n) ih v0 v2 v3 v4 x9 M2)
        · skip
          exact xZ.sub (xsc (.tail _ (.tail _ (.head _))) (xsc (.tail _ (.tail _ (.tail _ (.head _)))) (xsc (.tail _ (.tail _ (.tail _ (.tail _ (.head _))))) (xsc (.tail _ (.tail _ (.tail _ (.tail _ (.tail _ (.head _)))))) (xsc (.head _) xsn))))) (show ([6, 5, 0, 2, 3, 4] : List Nat).Nodup from by decide) (k_f_Zone_nextSwitch_103 O f d (f_Zone_nextSwitch_31 O f n) ih v0 v2 v3 v4 1000000000 M)
def f_Zone_nextSwitch (O : Nat → Option va_E) (f : Nat) (v0 : Nat) (v1 : Int) (M : xM) : Option (Int × xM) :=
  (gJ O M v0 11 1).bind fun x1 =>
  if yw x1 = yw 0 then (
    some (1000000000, M)
  ) else
  (gJ O M v0 11 0).bind fun x2 =>
  xcl (f_Math_floorDiv O f (v1 + x2) 1440 M) fun x3 M1 =>
  xcl (f_Days_monthOf O f x3 M1) fun x4 M2 =>
  f_Zone_nextSwitch_31 O f f v0 (v1 + x2) x4 0 M2
set_option maxRecDepth 20000 in
theorem k_f_Zone_nextSwitch (O : Nat → Option va_E) (f d : Nat) (v0 : Nat) (v1 : Int) (M : xM) : xZ oJ O (d + 2) 177 0 [(0, .ref v0), (1, .int (yw v1))] [] M (f_Zone_nextSwitch O f v0 v1 M) := by
  unfold f_Zone_nextSwitch
  refine xZ.adv (me := xm177) hP_177 1 (pc' := 1) (lv' := [(0, .ref v0), (1, .int (yw v1))]) (st' := [.ref v0]) rfl ?_
  refine xZ.k_gJ (me := xm177) hP_177 rfl (fun x1 => ?_)
  refine xZ.jf_ne (me := xm177) hP_177 rfl (fun h1 => ?_) (fun h1 => ?_)
  · skip
    refine xZ.adv (me := xm177) hP_177 1 (pc' := 9) (lv' := [(0, .ref v0), (1, .int (yw v1))]) (st' := [.int (1000000000 : Int32)]) rfl ?_
    refine xZ.eqs (lv2 := [(0, .ref v0), (1, .int (yw v1))]) (st2 := [.int (yw 1000000000)]) rfl (by simp only [yl_lit, yL_lit, yw_add, yw_sub, yw_mul, yw_neg, yl_add, yl_sub, yl_mul, cj_and, cj_or, cj_xor, cj_shl, cj_shr, cj_ushr, cj_div, cj_i2c, cj_i2b, cj_dc, ck_and, ck_or, ck_xor, ck_shl, ck_shr, ck_ushr, ck_i2l, ck_l2i, ck_cmp]) ?_
    exact xZ.jreti (me := xm177) hP_177 rfl rfl
  · skip
    refine xZ.adv (me := xm177) hP_177 2 (pc' := 12) (lv' := [(0, .ref v0), (1, .int (yw v1))]) (st' := [.ref v0, .int (yw v1)]) rfl ?_
    refine xZ.k_gJ (me := xm177) hP_177 rfl (fun x2 => ?_)
    refine xZ.adv (me := xm177) hP_177 4 (pc' := 21) (lv' := [(2, .int ((yw v1) + (yw x2))), (0, .ref v0), (1, .int (yw v1))]) (st' := [.int (1440 : Int32), .int ((yw v1) + (yw x2))]) rfl ?_
    refine xZ.eqs (lv2 := [(2, .int (yw (v1 + x2))), (0, .ref v0), (1, .int (yw v1))]) (st2 := [.int (yw 1440), .int (yw (v1 + x2))]) (by simp only [yl_lit, yL_lit, yw_add, yw_sub, yw_mul, yw_neg, yl_add, yl_sub, yl_mul, cj_and, cj_or, cj_xor, cj_shl, cj_shr, cj_ushr, cj_div, cj_i2c, cj_i2b, cj_dc, ck_and, ck_or, ck_xor, ck_shl, ck_shr, ck_ushr, ck_i2l, ck_l2i, ck_cmp]) (by simp only [yl_lit, yL_lit, yw_add, yw_sub, yw_mul, yw_neg, yl_add, yl_sub, yl_mul, cj_and, cj_or, cj_xor, cj_shl, cj_shr, cj_ushr, cj_div, cj_i2c, cj_i2b, cj_dc, ck_and, ck_or, ck_xor, ck_shl, ck_shr, ck_ushr, ck_i2l, ck_l2i, ck_cmp]) ?_
    refine xZ.calls (κ := oJ) (av := [.int (yw (v1 + x2)), .int (yw 1440)]) (rest := []) (st' := fun x3 => [.int (yw x3)]) (me := xm177) hP_177 rfl rfl rfl (Nat.le_of_ble_eq_true rfl) (by decide) hP_251 (Nat.le_of_ble_eq_true rfl) (fun _ => rfl) (k_f_Math_floorDiv O f (d + 1) (v1 + x2) 1440 M) (fun x3 M1 => ?_)
    refine xZ.calls (κ := oJ) (av := [.int (yw x3)]) (rest := []) (st' := fun x4 => [.int (yw x4)]) (me := xm177) hP_177 rfl rfl rfl (Nat.le_of_ble_eq_true rfl) (by decide) hP_52 (Nat.le_of_ble_eq_true rfl) (fun _ => rfl) (k_f_Days_monthOf O f (d + 1) x3 M1) (fun x4 M2 => ?_)
    refine xZ.adv (me := xm177) hP_177 3 (pc' := 31) (lv' := [(4, .int (0 : Int32)), (3, .int (yw x4)), (2, .int (yw (v1 + x2))), (0, .ref v0), (1, .int (yw v1))]) (st' := []) rfl ?_
    refine xZ.eqs (lv2 := [(4, .int (yw 0)), (3, .int (yw x4)), (2, .int (yw (v1 + x2))), (0, .ref v0), (1, .int (yw v1))]) (st2 := []) (by simp only [yl_lit, yL_lit, yw_add, yw_sub, yw_mul, yw_neg, yl_add, yl_sub, yl_mul, cj_and, cj_or, cj_xor, cj_shl, cj_shr, cj_ushr, cj_div, cj_i2c, cj_i2b, cj_dc, ck_and, ck_or, ck_xor, ck_shl, ck_shr, ck_ushr, ck_i2l, ck_l2i, ck_cmp]) rfl ?_
    exact xZ.sub (xsc (.tail _ (.tail _ (.tail _ (.head _)))) (xsc (.tail _ (.tail _ (.head _))) (xsc (.tail _ (.head _)) (xsc (.head _) xsn)))) (show ([4, 3, 2, 0, 1] : List Nat).Nodup from by decide) (k_f_Zone_nextSwitch_31 O f d f v0 (v1 + x2) x4 0 M2)
