/-! ===== texts ===== -/
def f_Calendarhall_setRoom (O : Nat → Option va_E) (f : Nat) (v0 : Nat) (v1 : Int) (v2 : Int) (M : xM) : Option (Int × xM) :=
  if yw v1 < yw 0 then (
    none
  ) else
  (gR O M v0 12 0).bind fun x1 =>
  (gR O M x1 4 2).bind fun x2 =>
  (aJN O M x2).bind fun x3 =>
  if yw v1 < yw x3 then (
    xcl (f_Calendarhall_needRange O f v2 0 9 M) fun _ M1 =>
    (gR O M1 v0 12 0).bind fun x5 =>
    (gR O M1 x5 4 2).bind fun x6 =>
    (aJ O M1 x6 v1).bind fun x7 =>
    (isO O M1 v0 12).bind fun _ =>
    xcl (f_Calendarhall_saveForUndo O f v0 M1) fun _ M2 =>
    (gR O M2 v0 12 0).bind fun x9 =>
    (gR O M2 x9 4 2).bind fun x10 =>
    (wJ M2 x10 v1 v2).bind fun M3 =>
    some (x7, M3)
  ) else
  none
set_option maxRecDepth 20000 in
theorem k_f_Calendarhall_setRoom (O : Nat → Option va_E) (f d : Nat) (v0 : Nat) (v1 : Int) (v2 : Int) (M : xM) : xZ oJ O (d + 5) 187 0 [(0, .ref v0), (1, .int (yw v1)), (2, .int (yw v2))] [] M (f_Calendarhall_setRoom O f v0 v1 v2 M) := by
  unfold f_Calendarhall_setRoom
  refine xZ.adv (me := xm187) hP_187 1 (pc' := 1) (lv' := [(0, .ref v0), (1, .int (yw v1)), (2, .int (yw v2))]) (st' := [.int (yw v1)]) rfl ?_
  refine xZ.jf_lt (me := xm187) hP_187 rfl (fun h1 => ?_) (fun h1 => ?_)
  · skip
    exact xZ.no
  · skip
    refine xZ.adv (me := xm187) hP_187 2 (pc' := 6) (lv' := [(0, .ref v0), (1, .int (yw v1)), (2, .int (yw v2))]) (st' := [.ref v0, .int (yw v1)]) rfl ?_
    refine xZ.k_gR (me := xm187) hP_187 rfl (fun x1 => ?_)
    refine xZ.k_gR (me := xm187) hP_187 rfl (fun x2 => ?_)
    refine xZ.k_aJN (me := xm187) hP_187 rfl (fun x3 => ?_)
    refine xZ.jc_lt (me := xm187) hP_187 rfl (fun h2 => ?_) (fun h2 => ?_)
    · skip
      refine xZ.adv (me := xm187) hP_187 3 (pc' := 28) (lv' := [(0, .ref v0), (1, .int (yw v1)), (2, .int (yw v2))]) (st' := [.int (9 : Int32), .int (0 : Int32), .int (yw v2)]) rfl ?_
      refine xZ.eqs (lv2 := [(0, .ref v0), (1, .int (yw v1)), (2, .int (yw v2))]) (st2 := [.int (yw 9), .int (yw 0), .int (yw v2)]) rfl (by simp only [yl_lit, yL_lit, yw_add, yw_sub, yw_mul, yw_neg, yl_add, yl_sub, yl_mul, cj_and, cj_or, cj_xor, cj_shl, cj_shr, cj_ushr, cj_div, cj_i2c, cj_i2b, cj_dc, ck_and, ck_or, ck_xor, ck_shl, ck_shr, ck_ushr, ck_i2l, ck_l2i, ck_cmp]) ?_
      refine xZ.calls (κ := oU) (av := [.int (yw v2), .int (yw 0), .int (yw 9)]) (rest := []) (st' := fun _ => []) (me := xm187) hP_187 rfl rfl rfl (Nat.le_of_ble_eq_true rfl) (by decide) hP_22 (Nat.le_of_ble_eq_true rfl) (fun _ => rfl) (k_f_Calendarhall_needRange O f (d + 4) v2 0 9 M) (fun _ M1 => ?_)
      refine xZ.adv (me := xm187) hP_187 1 (pc' := 32) (lv' := [(0, .ref v0), (1, .int (yw v1)), (2, .int (yw v2))]) (st' := [.ref v0]) rfl ?_
      refine xZ.k_gR (me := xm187) hP_187 rfl (fun x5 => ?_)
      refine xZ.k_gR (me := xm187) hP_187 rfl (fun x6 => ?_)
      refine xZ.adv (me := xm187) hP_187 1 (pc' := 39) (lv' := [(0, .ref v0), (1, .int (yw v1)), (2, .int (yw v2))]) (st' := [.int (yw v1), .ref x6]) rfl ?_
      refine xZ.k_aJ (me := xm187) hP_187 rfl (fun x7 => ?_)
      refine xZ.adv (me := xm187) hP_187 2 (pc' := 42) (lv' := [(3, .int (yw x7)), (0, .ref v0), (1, .int (yw v1)), (2, .int (yw v2))]) (st' := [.ref v0]) rfl ?_
      refine xZ.callv (κ := oU) (av := []) (rest := []) (st' := fun _ => []) (k0 := v0) (me := xm187) hP_187 rfl (Or.inl rfl) ⟨rfl, by decide⟩ rfl rfl (Nat.le_of_ble_eq_true rfl) (by decide) hP_23 (Nat.le_of_ble_eq_true rfl) (fun _ => rfl) (k_f_Calendarhall_saveForUndo O f (d + 0) v0 M1) (fun _ M2 => ?_)
      refine xZ.adv (me := xm187) hP_187 1 (pc' := 46) (lv' := [(3, .int (yw x7)), (0, .ref v0), (1, .int (yw v1)), (2, .int (yw v2))]) (st' := [.ref v0]) rfl ?_
      refine xZ.k_gR (me := xm187) hP_187 rfl (fun x9 => ?_)
      refine xZ.k_gR (me := xm187) hP_187 rfl (fun x10 => ?_)
      refine xZ.adv (me := xm187) hP_187 2 (pc' := 54) (lv' := [(3, .int (yw x7)), (0, .ref v0), (1, .int (yw v1)), (2, .int (yw v2))]) (st' := [.int (yw v2), .int (yw v1), .ref x10]) rfl ?_
      refine xZ.k_wJ (me := xm187) hP_187 rfl (fun M3 => ?_)
      refine xZ.adv (me := xm187) hP_187 1 (pc' := 56) (lv' := [(3, .int (yw x7)), (0, .ref v0), (1, .int (yw v1)), (2, .int (yw v2))]) (st' := [.int (yw x7)]) rfl ?_
      exact xZ.jreti (me := xm187) hP_187 rfl rfl
    · skip
      exact xZ.no
def f_Hall_seriesWithRoom_4 (O : Nat → Option va_E) (f : Nat) : Nat → Nat → Int → Int → xM → Option (Int × xM)
  | 0, _, _, _, _ => none
  | n + 1, v0, v1, v2, M =>
    (gR O M v0 4 3).bind fun x1 =>
    (aJN O M x1).bind fun x2 =>
    if yw x2 ≤ yw v2 then (
      some (v1, M)
    ) else
    (gR O M v0 4 3).bind fun x3 =>
    (aJR O M x3 v2).bind fun x4 =>
    (gJ O M x4 10 0).bind fun x5 =>
    if yw x5 = yw 0 then (
      f_Hall_seriesWithRoom_4 O f n v0 v1 (v2 + 1) M
    ) else
    (gR O M v0 4 3).bind fun x6 =>
    (aJR O M x6 v2).bind fun x7 =>
    (gJ O M x7 10 5).bind fun x8 =>
    if yw x8 = yw 0 then (
      f_Hall_seriesWithRoom_4 O f n v0 v1 (v2 + 1) M
    ) else
    xlet (jor v1 (jshl 1 (jand v2 31))) fun x9 =>
    f_Hall_seriesWithRoom_4 O f n v0 x9 (v2 + 1) M
set_option maxRecDepth 20000 in
theorem k_f_Hall_seriesWithRoom_4 (O : Nat → Option va_E) (f d : Nat) : ∀ (n : Nat) (v0 : Nat) (v1 : Int) (v2 : Int) (M : xM), xZ oJ O (d + 0) 189 4 [(0, .ref v0), (1, .int (yw v1)), (2, .int (yw v2))] [] M (f_Hall_seriesWithRoom_4 O f n v0 v1 v2 M) := by
  intro n
  induction n with
  | zero =>
    intro v0 v1 v2 M
    exact xZ.no
  | succ n ih =>
    intro v0 v1 v2 M
    unfold f_Hall_seriesWithRoom_4
    refine xZ.adv (me := xm189) hP_189 2 (pc' := 6) (lv' := [(0, .ref v0), (1, .int (yw v1)), (2, .int (yw v2))]) (st' := [.ref v0, .int (yw v2)]) rfl ?_
    refine xZ.k_gR (me := xm189) hP_189 rfl (fun x1 => ?_)
    refine xZ.k_aJN (me := xm189) hP_189 rfl (fun x2 => ?_)
    refine xZ.jc_ge (me := xm189) hP_189 rfl (fun h1 => ?_) (fun h1 => ?_)
    · skip
      refine xZ.adv (me := xm189) hP_189 1 (pc' := 50) (lv' := [(0, .ref v0), (1, .int (yw v1)), (2, .int (yw v2))]) (st' := [.int (yw v1)]) rfl ?_
      exact xZ.jreti (me := xm189) hP_189 rfl rfl
    · skip
      refine xZ.adv (me := xm189) hP_189 1 (pc' := 14) (lv' := [(0, .ref v0), (1, .int (yw v1)), (2, .int (yw v2))]) (st' := [.ref v0]) rfl ?_
      refine xZ.k_gR (me := xm189) hP_189 rfl (fun x3 => ?_)
      refine xZ.adv (me := xm189) hP_189 1 (pc' := 18) (lv' := [(0, .ref v0), (1, .int (yw v1)), (2, .int (yw v2))]) (st' := [.int (yw v2), .ref x3]) rfl ?_
      refine xZ.k_aJR (me := xm189) hP_189 rfl (fun x4 => ?_)
      refine xZ.k_gJ (me := xm189) hP_189 rfl (fun x5 => ?_)
      refine xZ.jf_eq (me := xm189) hP_189 rfl (fun h2 => ?_) (fun h2 => ?_)
      · skip
        refine xZ.adv (me := xm189) hP_189 2 (pc' := 4) (lv' := [(2, .int ((yw v2) + (1 : Int32))), (0, .ref v0), (1, .int (yw v1))]) (st' := []) rfl ?_
        refine xZ.eqs (lv2 := [(2, .int (yw (v2 + 1))), (0, .ref v0), (1, .int (yw v1))]) (st2 := []) (by simp only [yl_lit, yL_lit, yw_add, yw_sub, yw_mul, yw_neg, yl_add, yl_sub, yl_mul, cj_and, cj_or, cj_xor, cj_shl, cj_shr, cj_ushr, cj_div, cj_i2c, cj_i2b, cj_dc, ck_and, ck_or, ck_xor, ck_shl, ck_shr, ck_ushr, ck_i2l, ck_l2i, ck_cmp]) rfl ?_
        exact xZ.sub (xsc (.tail _ (.head _)) (xsc (.tail _ (.tail _ (.head _))) (xsc (.head _) xsn))) (show ([2, 0, 1] : List Nat).Nodup from by decide) (ih v0 v1 (v2 + 1) M)
      · skip
        refine xZ.adv (me := xm189) hP_189 1 (pc' := 26) (lv' := [(0, .ref v0), (1, .int (yw v1)), (2, .int (yw v2))]) (st' := [.ref v0]) rfl ?_
        refine xZ.k_gR (me := xm189) hP_189 rfl (fun x6 => ?_)
        refine xZ.adv (me := xm189) hP_189 1 (pc' := 30) (lv' := [(0, .ref v0), (1, .int (yw v1)), (2, .int (yw v2))]) (st' := [.int (yw v2), .ref x6]) rfl ?_
        refine xZ.k_aJR (me := xm189) hP_189 rfl (fun x7 => ?_)
        refine xZ.k_gJ (me := xm189) hP_189 rfl (fun x8 => ?_)
        refine xZ.jf_eq (me := xm189) hP_189 rfl (fun h3 => ?_) (fun h3 => ?_)
        · skip
          refine xZ.adv (me := xm189) hP_189 2 (pc' := 4) (lv' := [(2, .int ((yw v2) + (1 : Int32))), (0, .ref v0), (1, .int (yw v1))]) (st' := []) rfl ?_
          refine xZ.eqs (lv2 := [(2, .int (yw (v2 + 1))), (0, .ref v0), (1, .int (yw v1))]) (st2 := []) (by simp only [yl_lit, yL_lit, yw_add, yw_sub, yw_mul, yw_neg, yl_add, yl_sub, yl_mul, cj_and, cj_or, cj_xor, cj_shl, cj_shr, cj_ushr, cj_div, cj_i2c, cj_i2b, cj_dc, ck_and, ck_or, ck_xor, ck_shl, ck_shr, ck_ushr, ck_i2l, ck_l2i, ck_cmp]) rfl ?_
          exact xZ.sub (xsc (.tail _ (.head _)) (xsc (.tail _ (.tail _ (.head _))) (xsc (.head _) xsn))) (show ([2, 0, 1] : List Nat).Nodup from by decide) (ih v0 v1 (v2 + 1) M)
        · skip
          refine xZ.adv (me := xm189) hP_189 6 (pc' := 43) (lv' := [(1, .int ((yw v1) ||| ((1 : Int32) <<< ((yw v2) &&& 31)))), (0, .ref v0), (2, .int (yw v2))]) (st' := []) rfl ?_
          refine xZ.eqs (lv2 := [(1, .int (yw (jor v1 (jshl 1 (jand v2 31))))), (0, .ref v0), (2, .int (yw v2))]) (st2 := []) (by simp only [yl_lit, yL_lit, yw_add, yw_sub, yw_mul, yw_neg, yl_add, yl_sub, yl_mul, cj_and, cj_or, cj_xor, cj_shl, cj_shr, cj_ushr, cj_div, cj_i2c, cj_i2b, cj_dc, ck_and, ck_or, ck_xor, ck_shl, ck_shr, ck_ushr, ck_i2l, ck_l2i, ck_cmp]) rfl ?_
          refine xZ.letI (v := (jor v1 (jshl 1 (jand v2 31)))) (lvf := fun x9 => [(1, .int (yw x9)), (0, .ref v0), (2, .int (yw v2))]) (stf := fun x9 => []) ?_
          intro x9
          refine xZ.adv (me := xm189) hP_189 2 (pc' := 4) (lv' := [(2, .int ((yw v2) + (1 : Int32))), (1, .int (yw x9)), (0, .ref v0)]) (st' := []) rfl ?_
          refine xZ.eqs (lv2 := [(2, .int (yw (v2 + 1))), (1, .int (yw x9)), (0, .ref v0)]) (st2 := []) (by simp only [yl_lit, yL_lit, yw_add, yw_sub, yw_mul, yw_neg, yl_add, yl_sub, yl_mul, cj_and, cj_or, cj_xor, cj_shl, cj_shr, cj_ushr, cj_div, cj_i2c, cj_i2b, cj_dc, ck_and, ck_or, ck_xor, ck_shl, ck_shr, ck_ushr, ck_i2l, ck_l2i, ck_cmp]) rfl ?_
          exact xZ.sub (xsc (.tail _ (.tail _ (.head _))) (xsc (.tail _ (.head _)) (xsc (.head _) xsn))) (show ([2, 1, 0] : List Nat).Nodup from by decide) (ih v0 x9 (v2 + 1) M)
def f_Hall_seriesWithRoom (O : Nat → Option va_E) (f : Nat) (v0 : Nat) (M : xM) : Option (Int × xM) :=
  f_Hall_seriesWithRoom_4 O f f v0 0 0 M
set_option maxRecDepth 20000 in
theorem k_f_Hall_seriesWithRoom (O : Nat → Option va_E) (f d : Nat) (v0 : Nat) (M : xM) : xZ oJ O (d + 0) 189 0 [(0, .ref v0)] [] M (f_Hall_seriesWithRoom O f v0 M) := by
  unfold f_Hall_seriesWithRoom
  refine xZ.adv (me := xm189) hP_189 4 (pc' := 4) (lv' := [(2, .int (0 : Int32)), (1, .int (0 : Int32)), (0, .ref v0)]) (st' := []) rfl ?_
  refine xZ.eqs (lv2 := [(2, .int (yw 0)), (1, .int (yw 0)), (0, .ref v0)]) (st2 := []) (by simp only [yl_lit, yL_lit, yw_add, yw_sub, yw_mul, yw_neg, yl_add, yl_sub, yl_mul, cj_and, cj_or, cj_xor, cj_shl, cj_shr, cj_ushr, cj_div, cj_i2c, cj_i2b, cj_dc, ck_and, ck_or, ck_xor, ck_shl, ck_shr, ck_ushr, ck_i2l, ck_l2i, ck_cmp]) rfl ?_
  exact xZ.sub (xsc (.tail _ (.tail _ (.head _))) (xsc (.tail _ (.head _)) (xsc (.head _) xsn))) (show ([2, 1, 0] : List Nat).Nodup from by decide) (k_f_Hall_seriesWithRoom_4 O f d f v0 0 0 M)
def f_Hall_collect_7 (O : Nat → Option va_E) (f : Nat) : Nat → Nat → Nat → Int → Int → Int → Int → xM → Option (Unit × xM)
  | 0, _, _, _, _, _, _, _ => none
  | n + 1, v0, v1, v2, v3, v4, v5, M =>
    (gR O M v0 4 3).bind fun x1 =>
    (aJN O M x1).bind fun x2 =>
    if yw x2 ≤ yw v5 then (
      some ((), M)
    ) else
    (gR O M v0 4 3).bind fun x3 =>
    (aJR O M x3 v5).bind fun x4 =>
    (gJ O M x4 10 0).bind fun x5 =>
    if yw x5 = yw 0 then (
      f_Hall_collect_7 O f n v0 v1 v2 v3 v4 (v5 + 1) M
    ) else
    if yw (jand (jshr v2 (jand v5 31)) 1) = yw 1 then (
      (gR O M v0 4 3).bind fun x6 =>
      (aJR O M x6 v5).bind fun x7 =>
      (gR O M v0 4 3).bind fun x8 =>
      (aJR O M x8 v5).bind fun x9 =>
      (isO O M v0 4).bind fun _ =>
      xcl (f_Hall_zoneOf O f v0 x9 M) fun x10 M1 =>
      (isO O M1 x7 10).bind fun _ =>
      xcl (f_Series_addRows O f x7 v1 v5 0 x10 v3 v4 M1) fun _ M2 =>
      f_Hall_collect_7 O f n v0 v1 v2 v3 v4 (v5 + 1) M2
    ) else
    f_Hall_collect_7 O f n v0 v1 v2 v3 v4 (v5 + 1) M
set_option maxRecDepth 20000 in
theorem k_f_Hall_collect_7 (O : Nat → Option va_E) (f d : Nat) : ∀ (n : Nat) (v0 : Nat) (v1 : Nat) (v2 : Int) (v3 : Int) (v4 : Int) (v5 : Int) (M : xM), xZ oU O (d + 6) 190 7 [(0, .ref v0), (1, .ref v1), (2, .int (yw v2)), (3, .int (yw v3)), (4, .int (yw v4)), (5, .int (yw v5))] [] M (f_Hall_collect_7 O f n v0 v1 v2 v3 v4 v5 M) := by
  intro n
  induction n with
  | zero =>
    intro v0 v1 v2 v3 v4 v5 M
    exact xZ.no
  | succ n ih =>
    intro v0 v1 v2 v3 v4 v5 M
    unfold f_Hall_collect_7
    refine xZ.adv (me := xm190) hP_190 2 (pc' := 10) (lv' := [(0, .ref v0), (1, .ref v1), (2, .int (yw v2)), (3, .int (yw v3)), (4, .int (yw v4)), (5, .int (yw v5))]) (st' := [.ref v0, .int (yw v5)]) rfl ?_
    refine xZ.k_gR (me := xm190) hP_190 rfl (fun x1 => ?_)
    refine xZ.k_aJN (me := xm190) hP_190 rfl (fun x2 => ?_)
    refine xZ.jc_ge (me := xm190) hP_190 rfl (fun h1 => ?_) (fun h1 => ?_)
    · skip
      exact xZ.retu (me := xm190) hP_190 rfl rfl
    · skip
      refine xZ.adv (me := xm190) hP_190 1 (pc' := 18) (lv' := [(0, .ref v0), (1, .ref v1), (2, .int (yw v2)), (3, .int (yw v3)), (4, .int (yw v4)), (5, .int (yw v5))]) (st' := [.ref v0]) rfl ?_
      refine xZ.k_gR (me := xm190) hP_190 rfl (fun x3 => ?_)
      refine xZ.adv (me := xm190) hP_190 1 (pc' := 23) (lv' := [(0, .ref v0), (1, .ref v1), (2, .int (yw v2)), (3, .int (yw v3)), (4, .int (yw v4)), (5, .int (yw v5))]) (st' := [.int (yw v5), .ref x3]) rfl ?_
      refine xZ.k_aJR (me := xm190) hP_190 rfl (fun x4 => ?_)
      refine xZ.k_gJ (me := xm190) hP_190 rfl (fun x5 => ?_)
      refine xZ.jf_eq (me := xm190) hP_190 rfl (fun h2 => ?_) (fun h2 => ?_)
      · skip
        refine xZ.adv (me := xm190) hP_190 2 (pc' := 7) (lv' := [(5, .int ((yw v5) + (1 : Int32))), (0, .ref v0), (1, .ref v1), (2, .int (yw v2)), (3, .int (yw v3)), (4, .int (yw v4))]) (st' := []) rfl ?_
        refine xZ.eqs (lv2 := [(5, .int (yw (v5 + 1))), (0, .ref v0), (1, .ref v1), (2, .int (yw v2)), (3, .int (yw v3)), (4, .int (yw v4))]) (st2 := []) (by simp only [yl_lit, yL_lit, yw_add, yw_sub, yw_mul, yw_neg, yl_add, yl_sub, yl_mul, cj_and, cj_or, cj_xor, cj_shl, cj_shr, cj_ushr, cj_div, cj_i2c, cj_i2b, cj_dc, ck_and, ck_or, ck_xor, ck_shl, ck_shr, ck_ushr, ck_i2l, ck_l2i, ck_cmp]) rfl ?_
        exact xZ.sub (xsc (.tail _ (.head _)) (xsc (.tail _ (.tail _ (.head _))) (xsc (.tail _ (.tail _ (.tail _ (.head _)))) (xsc (.tail _ (.tail _ (.tail _ (.tail _ (.head _))))) (xsc (.tail _ (.tail _ (.tail _ (.tail _ (.tail _ (.head _)))))) (xsc (.head _) xsn)))))) (show ([5, 0, 1, 2, 3, 4] : List Nat).Nodup from by decide) (ih v0 v1 v2 v3 v4 (v5 + 1) M)
      · skip
        refine xZ.adv (me := xm190) hP_190 6 (pc' := 37) (lv' := [(0, .ref v0), (1, .ref v1), (2, .int (yw v2)), (3, .int (yw v3)), (4, .int (yw v4)), (5, .int (yw v5))]) (st' := [.int (1 : Int32), .int (((yw v2) >>> ((yw v5) &&& 31)) &&& (1 : Int32))]) rfl ?_
        refine xZ.eqs (lv2 := [(0, .ref v0), (1, .ref v1), (2, .int (yw v2)), (3, .int (yw v3)), (4, .int (yw v4)), (5, .int (yw v5))]) (st2 := [.int (yw 1), .int (yw (jand (jshr v2 (jand v5 31)) 1))]) rfl (by simp only [yl_lit, yL_lit, yw_add, yw_sub, yw_mul, yw_neg, yl_add, yl_sub, yl_mul, cj_and, cj_or, cj_xor, cj_shl, cj_shr, cj_ushr, cj_div, cj_i2c, cj_i2b, cj_dc, ck_and, ck_or, ck_xor, ck_shl, ck_shr, ck_ushr, ck_i2l, ck_l2i, ck_cmp]) ?_
        refine xZ.jc_ne (me := xm190) hP_190 rfl (fun h3 => ?_) (fun h3 => ?_)
        · skip
          refine xZ.adv (me := xm190) hP_190 1 (pc' := 41) (lv' := [(0, .ref v0), (1, .ref v1), (2, .int (yw v2)), (3, .int (yw v3)), (4, .int (yw v4)), (5, .int (yw v5))]) (st' := [.ref v0]) rfl ?_
          refine xZ.k_gR (me := xm190) hP_190 rfl (fun x6 => ?_)
          refine xZ.adv (me := xm190) hP_190 1 (pc' := 46) (lv' := [(0, .ref v0), (1, .ref v1), (2, .int (yw v2)), (3, .int (yw v3)), (4, .int (yw v4)), (5, .int (yw v5))]) (st' := [.int (yw v5), .ref x6]) rfl ?_
          refine xZ.k_aJR (me := xm190) hP_190 rfl (fun x7 => ?_)
          refine xZ.adv (me := xm190) hP_190 5 (pc' := 53) (lv' := [(0, .ref v0), (1, .ref v1), (2, .int (yw v2)), (3, .int (yw v3)), (4, .int (yw v4)), (5, .int (yw v5))]) (st' := [.ref v0, .ref v0, .int (0 : Int32), .int (yw v5), .ref v1, .ref x7]) rfl ?_
          refine xZ.eqs (lv2 := [(0, .ref v0), (1, .ref v1), (2, .int (yw v2)), (3, .int (yw v3)), (4, .int (yw v4)), (5, .int (yw v5))]) (st2 := [.ref v0, .ref v0, .int (yw 0), .int (yw v5), .ref v1, .ref x7]) rfl (by simp only [yl_lit, yL_lit, yw_add, yw_sub, yw_mul, yw_neg, yl_add, yl_sub, yl_mul, cj_and, cj_or, cj_xor, cj_shl, cj_shr, cj_ushr, cj_div, cj_i2c, cj_i2b, cj_dc, ck_and, ck_or, ck_xor, ck_shl, ck_shr, ck_ushr, ck_i2l, ck_l2i, ck_cmp]) ?_
          refine xZ.k_gR (me := xm190) hP_190 rfl (fun x8 => ?_)
          refine xZ.adv (me := xm190) hP_190 1 (pc' := 58) (lv' := [(0, .ref v0), (1, .ref v1), (2, .int (yw v2)), (3, .int (yw v3)), (4, .int (yw v4)), (5, .int (yw v5))]) (st' := [.int (yw v5), .ref x8, .ref v0, .int (yw 0), .int (yw v5), .ref v1, .ref x7]) rfl ?_
          refine xZ.k_aJR (me := xm190) hP_190 rfl (fun x9 => ?_)
          refine xZ.callv (κ := oR) (av := [.ref x9]) (rest := [.int (yw 0), .int (yw v5), .ref v1, .ref x7]) (st' := fun x10 => [.ref x10, .int (yw 0), .int (yw v5), .ref v1, .ref x7]) (k0 := v0) (me := xm190) hP_190 rfl (Or.inl rfl) ⟨rfl, by decide⟩ rfl rfl (Nat.le_of_ble_eq_true rfl) (by decide) hP_102 (Nat.le_of_ble_eq_true rfl) (fun _ => rfl) (k_f_Hall_zoneOf O f (d + 4) v0 x9 M) (fun x10 M1 => ?_)
          refine xZ.adv (me := xm190) hP_190 2 (pc' := 65) (lv' := [(0, .ref v0), (1, .ref v1), (2, .int (yw v2)), (3, .int (yw v3)), (4, .int (yw v4)), (5, .int (yw v5))]) (st' := [.int (yw v4), .int (yw v3), .ref x10, .int (yw 0), .int (yw v5), .ref v1, .ref x7]) rfl ?_
          refine xZ.callv (κ := oU) (av := [.ref v1, .int (yw v5), .int (yw 0), .ref x10, .int (yw v3), .int (yw v4)]) (rest := []) (st' := fun _ => []) (k0 := x7) (me := xm190) hP_190 rfl (Or.inl rfl) ⟨rfl, by decide⟩ rfl rfl (Nat.le_of_ble_eq_true rfl) (by decide) hP_164 (Nat.le_of_ble_eq_true rfl) (fun _ => rfl) (k_f_Series_addRows O f (d + 0) x7 v1 v5 0 x10 v3 v4 M1) (fun _ M2 => ?_)
          refine xZ.adv (me := xm190) hP_190 2 (pc' := 7) (lv' := [(5, .int ((yw v5) + (1 : Int32))), (0, .ref v0), (1, .ref v1), (2, .int (yw v2)), (3, .int (yw v3)), (4, .int (yw v4))]) (st' := []) rfl ?_
          refine xZ.eqs (lv2 := [(5, .int (yw (v5 + 1))), (0, .ref v0), (1, .ref v1), (2, .int (yw v2)), (3, .int (yw v3)), (4, .int (yw v4))]) (st2 := []) (by simp only [yl_lit, yL_lit, yw_add, yw_sub, yw_mul, yw_neg, yl_add, yl_sub, yl_mul, cj_and, cj_or, cj_xor, cj_shl, cj_shr, cj_ushr, cj_div, cj_i2c, cj_i2b, cj_dc, ck_and, ck_or, ck_xor, ck_shl, ck_shr, ck_ushr, ck_i2l, ck_l2i, ck_cmp]) rfl ?_
          exact xZ.sub (xsc (.tail _ (.head _)) (xsc (.tail _ (.tail _ (.head _))) (xsc (.tail _ (.tail _ (.tail _ (.head _)))) (xsc (.tail _ (.tail _ (.tail _ (.tail _ (.head _))))) (xsc (.tail _ (.tail _ (.tail _ (.tail _ (.tail _ (.head _)))))) (xsc (.head _) xsn)))))) (show ([5, 0, 1, 2, 3, 4] : List Nat).Nodup from by decide) (ih v0 v1 v2 v3 v4 (v5 + 1) M2)
        · skip
          refine xZ.adv (me := xm190) hP_190 2 (pc' := 7) (lv' := [(5, .int ((yw v5) + (1 : Int32))), (0, .ref v0), (1, .ref v1), (2, .int (yw v2)), (3, .int (yw v3)), (4, .int (yw v4))]) (st' := []) rfl ?_
          refine xZ.eqs (lv2 := [(5, .int (yw (v5 + 1))), (0, .ref v0), (1, .ref v1), (2, .int (yw v2)), (3, .int (yw v3)), (4, .int (yw v4))]) (st2 := []) (by simp only [yl_lit, yL_lit, yw_add, yw_sub, yw_mul, yw_neg, yl_add, yl_sub, yl_mul, cj_and, cj_or, cj_xor, cj_shl, cj_shr, cj_ushr, cj_div, cj_i2c, cj_i2b, cj_dc, ck_and, ck_or, ck_xor, ck_shl, ck_shr, ck_ushr, ck_i2l, ck_l2i, ck_cmp]) rfl ?_
          exact xZ.sub (xsc (.tail _ (.head _)) (xsc (.tail _ (.tail _ (.head _))) (xsc (.tail _ (.tail _ (.tail _ (.head _)))) (xsc (.tail _ (.tail _ (.tail _ (.tail _ (.head _))))) (xsc (.tail _ (.tail _ (.tail _ (.tail _ (.tail _ (.head _)))))) (xsc (.head _) xsn)))))) (show ([5, 0, 1, 2, 3, 4] : List Nat).Nodup from by decide) (ih v0 v1 v2 v3 v4 (v5 + 1) M)
def f_Hall_collect (O : Nat → Option va_E) (f : Nat) (v0 : Nat) (v1 : Nat) (v2 : Int) (v3 : Int) (v4 : Int) (M : xM) : Option (Unit × xM) :=
  (isO O M v1 2).bind fun _ =>
  xcl (f_Dates_clear O f v1 M) fun _ M1 =>
  f_Hall_collect_7 O f f v0 v1 v2 v3 v4 0 M1
set_option maxRecDepth 20000 in
theorem k_f_Hall_collect (O : Nat → Option va_E) (f d : Nat) (v0 : Nat) (v1 : Nat) (v2 : Int) (v3 : Int) (v4 : Int) (M : xM) : xZ oU O (d + 6) 190 0 [(0, .ref v0), (1, .ref v1), (2, .int (yw v2)), (3, .int (yw v3)), (4, .int (yw v4))] [] M (f_Hall_collect O f v0 v1 v2 v3 v4 M) := by
  unfold f_Hall_collect
  refine xZ.adv (me := xm190) hP_190 1 (pc' := 1) (lv' := [(0, .ref v0), (1, .ref v1), (2, .int (yw v2)), (3, .int (yw v3)), (4, .int (yw v4))]) (st' := [.ref v1]) rfl ?_
  refine xZ.callv (κ := oU) (av := []) (rest := []) (st' := fun _ => []) (k0 := v1) (me := xm190) hP_190 rfl (Or.inl rfl) ⟨rfl, by decide⟩ rfl rfl (Nat.le_of_ble_eq_true rfl) (by decide) hP_163 (Nat.le_of_ble_eq_true rfl) (fun _ => rfl) (k_f_Dates_clear O f (d + 5) v1 M) (fun _ M1 => ?_)
  refine xZ.adv (me := xm190) hP_190 2 (pc' := 7) (lv' := [(5, .int (0 : Int32)), (0, .ref v0), (1, .ref v1), (2, .int (yw v2)), (3, .int (yw v3)), (4, .int (yw v4))]) (st' := []) rfl ?_
  refine xZ.eqs (lv2 := [(5, .int (yw 0)), (0, .ref v0), (1, .ref v1), (2, .int (yw v2)), (3, .int (yw v3)), (4, .int (yw v4))]) (st2 := []) (by simp only [yl_lit, yL_lit, yw_add, yw_sub, yw_mul, yw_neg, yl_add, yl_sub, yl_mul, cj_and, cj_or, cj_xor, cj_shl, cj_shr, cj_ushr, cj_div, cj_i2c, cj_i2b, cj_dc, ck_and, ck_or, ck_xor, ck_shl, ck_shr, ck_ushr, ck_i2l, ck_l2i, ck_cmp]) rfl ?_
  exact xZ.sub (xsc (.tail _ (.head _)) (xsc (.tail _ (.tail _ (.head _))) (xsc (.tail _ (.tail _ (.tail _ (.head _)))) (xsc (.tail _ (.tail _ (.tail _ (.tail _ (.head _))))) (xsc (.tail _ (.tail _ (.tail _ (.tail _ (.tail _ (.head _)))))) (xsc (.head _) xsn)))))) (show ([5, 0, 1, 2, 3, 4] : List Nat).Nodup from by decide) (k_f_Hall_collect_7 O f d f v0 v1 v2 v3 v4 0 M1)
def f_Meetings_takeRoom_2 (O : Nat → Option va_E) (f : Nat) : Nat → Nat → Int → Int → Int → xM → Option (Int × xM)
  | 0, _, _, _, _, _ => none
  | n + 1, v0, v1, v2, v3, M =>
    (gR O M v0 5 4).bind fun x1 =>
    (aJN O M x1).bind fun x2 =>
    if yw x2 ≤ yw v3 then (
      some ((-1), M)
    ) else
    (gR O M v0 5 4).bind fun x3 =>
    (aJ O M x3 v3).bind fun x4 =>
    if yw v1 < yw x4 then (
      f_Meetings_takeRoom_2 O f n v0 v1 v2 (v3 + 1) M
    ) else
    (gR O M v0 5 4).bind fun x5 =>
    (wJ M x5 v3 v2).bind fun M1 =>
    some (v3, M1)
set_option maxRecDepth 20000 in
theorem k_f_Meetings_takeRoom_2 (O : Nat → Option va_E) (f d : Nat) : ∀ (n : Nat) (v0 : Nat) (v1 : Int) (v2 : Int) (v3 : Int) (M : xM), xZ oJ O (d + 0) 192 2 [(0, .ref v0), (1, .int (yw v1)), (2, .int (yw v2)), (3, .int (yw v3))] [] M (f_Meetings_takeRoom_2 O f n v0 v1 v2 v3 M) := by
  intro n
  induction n with
  | zero =>
    intro v0 v1 v2 v3 M
    exact xZ.no
  | succ n ih =>
    intro v0 v1 v2 v3 M
    unfold f_Meetings_takeRoom_2
    refine xZ.adv (me := xm192) hP_192 2 (pc' := 4) (lv' := [(0, .ref v0), (1, .int (yw v1)), (2, .int (yw v2)), (3, .int (yw v3))]) (st' := [.ref v0, .int (yw v3)]) rfl ?_
    refine xZ.k_gR (me := xm192) hP_192 rfl (fun x1 => ?_)
    refine xZ.k_aJN (me := xm192) hP_192 rfl (fun x2 => ?_)
    refine xZ.jc_ge (me := xm192) hP_192 rfl (fun h1 => ?_) (fun h1 => ?_)
    · skip
      refine xZ.adv (me := xm192) hP_192 1 (pc' := 37) (lv' := [(0, .ref v0), (1, .int (yw v1)), (2, .int (yw v2)), (3, .int (yw v3))]) (st' := [.int (-1 : Int32)]) rfl ?_
      refine xZ.eqs (lv2 := [(0, .ref v0), (1, .int (yw v1)), (2, .int (yw v2)), (3, .int (yw v3))]) (st2 := [.int (yw (-1))]) rfl (by simp only [yl_lit, yL_lit, yw_add, yw_sub, yw_mul, yw_neg, yl_add, yl_sub, yl_mul, cj_and, cj_or, cj_xor, cj_shl, cj_shr, cj_ushr, cj_div, cj_i2c, cj_i2b, cj_dc, ck_and, ck_or, ck_xor, ck_shl, ck_shr, ck_ushr, ck_i2l, ck_l2i, ck_cmp]) ?_
      exact xZ.jreti (me := xm192) hP_192 rfl rfl
    · skip
      refine xZ.adv (me := xm192) hP_192 1 (pc' := 12) (lv' := [(0, .ref v0), (1, .int (yw v1)), (2, .int (yw v2)), (3, .int (yw v3))]) (st' := [.ref v0]) rfl ?_
      refine xZ.k_gR (me := xm192) hP_192 rfl (fun x3 => ?_)
      refine xZ.adv (me := xm192) hP_192 1 (pc' := 16) (lv' := [(0, .ref v0), (1, .int (yw v1)), (2, .int (yw v2)), (3, .int (yw v3))]) (st' := [.int (yw v3), .ref x3]) rfl ?_
      refine xZ.k_aJ (me := xm192) hP_192 rfl (fun x4 => ?_)
      refine xZ.adv (me := xm192) hP_192 1 (pc' := 18) (lv' := [(0, .ref v0), (1, .int (yw v1)), (2, .int (yw v2)), (3, .int (yw v3))]) (st' := [.int (yw v1), .int (yw x4)]) rfl ?_
      refine xZ.jc_gt (me := xm192) hP_192 rfl (fun h2 => ?_) (fun h2 => ?_)
      · skip
        refine xZ.adv (me := xm192) hP_192 2 (pc' := 2) (lv' := [(3, .int ((yw v3) + (1 : Int32))), (0, .ref v0), (1, .int (yw v1)), (2, .int (yw v2))]) (st' := []) rfl ?_
        refine xZ.eqs (lv2 := [(3, .int (yw (v3 + 1))), (0, .ref v0), (1, .int (yw v1)), (2, .int (yw v2))]) (st2 := []) (by simp only [yl_lit, yL_lit, yw_add, yw_sub, yw_mul, yw_neg, yl_add, yl_sub, yl_mul, cj_and, cj_or, cj_xor, cj_shl, cj_shr, cj_ushr, cj_div, cj_i2c, cj_i2b, cj_dc, ck_and, ck_or, ck_xor, ck_shl, ck_shr, ck_ushr, ck_i2l, ck_l2i, ck_cmp]) rfl ?_
        exact xZ.sub (xsc (.tail _ (.head _)) (xsc (.tail _ (.tail _ (.head _))) (xsc (.tail _ (.tail _ (.tail _ (.head _)))) (xsc (.head _) xsn)))) (show ([3, 0, 1, 2] : List Nat).Nodup from by decide) (ih v0 v1 v2 (v3 + 1) M)
      · skip
        refine xZ.adv (me := xm192) hP_192 1 (pc' := 22) (lv' := [(0, .ref v0), (1, .int (yw v1)), (2, .int (yw v2)), (3, .int (yw v3))]) (st' := [.ref v0]) rfl ?_
        refine xZ.k_gR (me := xm192) hP_192 rfl (fun x5 => ?_)
        refine xZ.adv (me := xm192) hP_192 2 (pc' := 27) (lv' := [(0, .ref v0), (1, .int (yw v1)), (2, .int (yw v2)), (3, .int (yw v3))]) (st' := [.int (yw v2), .int (yw v3), .ref x5]) rfl ?_
        refine xZ.k_wJ (me := xm192) hP_192 rfl (fun M1 => ?_)
        refine xZ.adv (me := xm192) hP_192 1 (pc' := 29) (lv' := [(0, .ref v0), (1, .int (yw v1)), (2, .int (yw v2)), (3, .int (yw v3))]) (st' := [.int (yw v3)]) rfl ?_
        exact xZ.jreti (me := xm192) hP_192 rfl rfl
def f_Meetings_takeRoom (O : Nat → Option va_E) (f : Nat) (v0 : Nat) (v1 : Int) (v2 : Int) (M : xM) : Option (Int × xM) :=
  f_Meetings_takeRoom_2 O f f v0 v1 v2 0 M
set_option maxRecDepth 20000 in
theorem k_f_Meetings_takeRoom (O : Nat → Option va_E) (f d : Nat) (v0 : Nat) (v1 : Int) (v2 : Int) (M : xM) : xZ oJ O (d + 0) 192 0 [(0, .ref v0), (1, .int (yw v1)), (2, .int (yw v2))] [] M (f_Meetings_takeRoom O f v0 v1 v2 M) := by
  unfold f_Meetings_takeRoom
  refine xZ.adv (me := xm192) hP_192 2 (pc' := 2) (lv' := [(3, .int (0 : Int32)), (0, .ref v0), (1, .int (yw v1)), (2, .int (yw v2))]) (st' := []) rfl ?_
  refine xZ.eqs (lv2 := [(3, .int (yw 0)), (0, .ref v0), (1, .int (yw v1)), (2, .int (yw v2))]) (st2 := []) (by simp only [yl_lit, yL_lit, yw_add, yw_sub, yw_mul, yw_neg, yl_add, yl_sub, yl_mul, cj_and, cj_or, cj_xor, cj_shl, cj_shr, cj_ushr, cj_div, cj_i2c, cj_i2b, cj_dc, ck_and, ck_or, ck_xor, ck_shl, ck_shr, ck_ushr, ck_i2l, ck_l2i, ck_cmp]) rfl ?_
  exact xZ.sub (xsc (.tail _ (.head _)) (xsc (.tail _ (.tail _ (.head _))) (xsc (.tail _ (.tail _ (.tail _ (.head _)))) (xsc (.head _) xsn)))) (show ([3, 0, 1, 2] : List Nat).Nodup from by decide) (k_f_Meetings_takeRoom_2 O f d f v0 v1 v2 0 M)
def f_Meetings_lay_42 (O : Nat → Option va_E) (f : Nat) : Nat → Nat → Nat → Int → Int → xM → Option (Int × xM)
  | 0, _, _, _, _, _ => none
  | n + 1, v0, v1, v2, v3, M =>
    (gJ O M v0 5 0).bind fun x1 =>
    if yw x1 ≤ yw v3 then (
      some (v2, M)
    ) else
    if yw 256 ≤ yw v3 then (
      some (v2, M)
    ) else
    (gR O M v0 5 1).bind fun x2 =>
    (isO O M v1 2).bind fun _ =>
    xcl (f_Dates_rowAt O f v1 v3 M) fun x3 M1 =>
    xcl (f_Dates_numberOf O f x3 M1) fun x4 M2 =>
    (wJ M2 x2 v3 x4).bind fun M3 =>
    (gR O M3 v0 5 2).bind fun x5 =>
    (isO O M3 v1 2).bind fun _ =>
    xcl (f_Dates_rowAt O f v1 v3 M3) fun x6 M4 =>
    xcl (f_Dates_dayIn O f x6 M4) fun x7 M5 =>
    (wJ M5 x5 v3 x7).bind fun M6 =>
    (gR O M6 v0 5 3).bind fun x8 =>
    (isO O M6 v1 2).bind fun _ =>
    xcl (f_Dates_beginAt O f v1 v3 M6) fun x9 M7 =>
    (isO O M7 v1 2).bind fun _ =>
    xcl (f_Dates_endAt O f v1 v3 M7) fun x10 M8 =>
    (isO O M8 v0 5).bind fun _ =>
    xcl (f_Meetings_takeRoom O f v0 x9 x10 M8) fun x11 M9 =>
    (wJ M9 x8 v3 x11).bind fun M10 =>
    (gR O M10 v0 5 3).bind fun x12 =>
    (aJ O M10 x12 v3).bind fun x13 =>
    if yw x13 = yw (-1) then (
      f_Meetings_lay_42 O f n v0 v1 (v2 + 1) (v3 + 1) M10
    ) else
    f_Meetings_lay_42 O f n v0 v1 v2 (v3 + 1) M10
set_option maxRecDepth 20000 in
theorem k_f_Meetings_lay_42 (O : Nat → Option va_E) (f d : Nat) : ∀ (n : Nat) (v0 : Nat) (v1 : Nat) (v2 : Int) (v3 : Int) (M : xM), xZ oJ O (d + 3) 191 42 [(0, .ref v0), (1, .ref v1), (2, .int (yw v2)), (3, .int (yw v3))] [] M (f_Meetings_lay_42 O f n v0 v1 v2 v3 M) := by
  intro n
  induction n with
  | zero =>
    intro v0 v1 v2 v3 M
    exact xZ.no
  | succ n ih =>
    intro v0 v1 v2 v3 M
    unfold f_Meetings_lay_42
    refine xZ.adv (me := xm191) hP_191 2 (pc' := 44) (lv' := [(0, .ref v0), (1, .ref v1), (2, .int (yw v2)), (3, .int (yw v3))]) (st' := [.ref v0, .int (yw v3)]) rfl ?_
    refine xZ.k_gJ (me := xm191) hP_191 rfl (fun x1 => ?_)
    refine xZ.jc_ge (me := xm191) hP_191 rfl (fun h1 => ?_) (fun h1 => ?_)
    · skip
      refine xZ.adv (me := xm191) hP_191 1 (pc' := 125) (lv' := [(0, .ref v0), (1, .ref v1), (2, .int (yw v2)), (3, .int (yw v3))]) (st' := [.int (yw v2)]) rfl ?_
      exact xZ.jreti (me := xm191) hP_191 rfl rfl
    · skip
      refine xZ.adv (me := xm191) hP_191 2 (pc' := 54) (lv' := [(0, .ref v0), (1, .ref v1), (2, .int (yw v2)), (3, .int (yw v3))]) (st' := [.int (256 : Int32), .int (yw v3)]) rfl ?_
      refine xZ.eqs (lv2 := [(0, .ref v0), (1, .ref v1), (2, .int (yw v2)), (3, .int (yw v3))]) (st2 := [.int (yw 256), .int (yw v3)]) rfl (by simp only [yl_lit, yL_lit, yw_add, yw_sub, yw_mul, yw_neg, yl_add, yl_sub, yl_mul, cj_and, cj_or, cj_xor, cj_shl, cj_shr, cj_ushr, cj_div, cj_i2c, cj_i2b, cj_dc, ck_and, ck_or, ck_xor, ck_shl, ck_shr, ck_ushr, ck_i2l, ck_l2i, ck_cmp]) ?_
      refine xZ.jc_ge (me := xm191) hP_191 rfl (fun h2 => ?_) (fun h2 => ?_)
      · skip
        refine xZ.adv (me := xm191) hP_191 1 (pc' := 125) (lv' := [(0, .ref v0), (1, .ref v1), (2, .int (yw v2)), (3, .int (yw v3))]) (st' := [.int (yw v2)]) rfl ?_
        exact xZ.jreti (me := xm191) hP_191 rfl rfl
      · skip
        refine xZ.adv (me := xm191) hP_191 1 (pc' := 58) (lv' := [(0, .ref v0), (1, .ref v1), (2, .int (yw v2)), (3, .int (yw v3))]) (st' := [.ref v0]) rfl ?_
        refine xZ.k_gR (me := xm191) hP_191 rfl (fun x2 => ?_)
        refine xZ.adv (me := xm191) hP_191 3 (pc' := 64) (lv' := [(0, .ref v0), (1, .ref v1), (2, .int (yw v2)), (3, .int (yw v3))]) (st' := [.int (yw v3), .ref v1, .int (yw v3), .ref x2]) rfl ?_
        refine xZ.callv (κ := oK) (av := [.int (yw v3)]) (rest := [.int (yw v3), .ref x2]) (st' := fun x3 => [.long (yl x3), .int (yw v3), .ref x2]) (k0 := v1) (me := xm191) hP_191 rfl (Or.inl rfl) ⟨rfl, by decide⟩ rfl rfl (Nat.le_of_ble_eq_true rfl) (by decide) hP_167 (Nat.le_of_ble_eq_true rfl) (fun _ => rfl) (k_f_Dates_rowAt O f (d + 2) v1 v3 M) (fun x3 M1 => ?_)
        refine xZ.calls (κ := oJ) (av := [.long (yl x3)]) (rest := [.int (yw v3), .ref x2]) (st' := fun x4 => [.int (yw x4), .int (yw v3), .ref x2]) (me := xm191) hP_191 rfl rfl rfl (Nat.le_of_ble_eq_true rfl) (by decide) hP_174 (Nat.le_of_ble_eq_true rfl) (fun _ => rfl) (k_f_Dates_numberOf O f (d + 2) x3 M1) (fun x4 M2 => ?_)
        refine xZ.k_wJ (me := xm191) hP_191 rfl (fun M3 => ?_)
        refine xZ.adv (me := xm191) hP_191 1 (pc' := 72) (lv' := [(0, .ref v0), (1, .ref v1), (2, .int (yw v2)), (3, .int (yw v3))]) (st' := [.ref v0]) rfl ?_
        refine xZ.k_gR (me := xm191) hP_191 rfl (fun x5 => ?_)
        refine xZ.adv (me := xm191) hP_191 3 (pc' := 78) (lv' := [(0, .ref v0), (1, .ref v1), (2, .int (yw v2)), (3, .int (yw v3))]) (st' := [.int (yw v3), .ref v1, .int (yw v3), .ref x5]) rfl ?_
        refine xZ.callv (κ := oK) (av := [.int (yw v3)]) (rest := [.int (yw v3), .ref x5]) (st' := fun x6 => [.long (yl x6), .int (yw v3), .ref x5]) (k0 := v1) (me := xm191) hP_191 rfl (Or.inl rfl) ⟨rfl, by decide⟩ rfl rfl (Nat.le_of_ble_eq_true rfl) (by decide) hP_167 (Nat.le_of_ble_eq_true rfl) (fun _ => rfl) (k_f_Dates_rowAt O f (d + 2) v1 v3 M3) (fun x6 M4 => ?_)
        refine xZ.calls (κ := oJ) (av := [.long (yl x6)]) (rest := [.int (yw v3), .ref x5]) (st' := fun x7 => [.int (yw x7), .int (yw v3), .ref x5]) (me := xm191) hP_191 rfl rfl rfl (Nat.le_of_ble_eq_true rfl) (by decide) hP_123 (Nat.le_of_ble_eq_true rfl) (fun _ => rfl) (k_f_Dates_dayIn O f (d + 2) x6 M4) (fun x7 M5 => ?_)
        refine xZ.k_wJ (me := xm191) hP_191 rfl (fun M6 => ?_)
        refine xZ.adv (me := xm191) hP_191 1 (pc' := 86) (lv' := [(0, .ref v0), (1, .ref v1), (2, .int (yw v2)), (3, .int (yw v3))]) (st' := [.ref v0]) rfl ?_
        refine xZ.k_gR (me := xm191) hP_191 rfl (fun x8 => ?_)
        refine xZ.adv (me := xm191) hP_191 4 (pc' := 93) (lv' := [(0, .ref v0), (1, .ref v1), (2, .int (yw v2)), (3, .int (yw v3))]) (st' := [.int (yw v3), .ref v1, .ref v0, .int (yw v3), .ref x8]) rfl ?_
        refine xZ.callv (κ := oJ) (av := [.int (yw v3)]) (rest := [.ref v0, .int (yw v3), .ref x8]) (st' := fun x9 => [.int (yw x9), .ref v0, .int (yw v3), .ref x8]) (k0 := v1) (me := xm191) hP_191 rfl (Or.inl rfl) ⟨rfl, by decide⟩ rfl rfl (Nat.le_of_ble_eq_true rfl) (by decide) hP_171 (Nat.le_of_ble_eq_true rfl) (fun _ => rfl) (k_f_Dates_beginAt O f (d + 1) v1 v3 M6) (fun x9 M7 => ?_)
        refine xZ.adv (me := xm191) hP_191 2 (pc' := 98) (lv' := [(0, .ref v0), (1, .ref v1), (2, .int (yw v2)), (3, .int (yw v3))]) (st' := [.int (yw v3), .ref v1, .int (yw x9), .ref v0, .int (yw v3), .ref x8]) rfl ?_
        refine xZ.callv (κ := oJ) (av := [.int (yw v3)]) (rest := [.int (yw x9), .ref v0, .int (yw v3), .ref x8]) (st' := fun x10 => [.int (yw x10), .int (yw x9), .ref v0, .int (yw v3), .ref x8]) (k0 := v1) (me := xm191) hP_191 rfl (Or.inl rfl) ⟨rfl, by decide⟩ rfl rfl (Nat.le_of_ble_eq_true rfl) (by decide) hP_170 (Nat.le_of_ble_eq_true rfl) (fun _ => rfl) (k_f_Dates_endAt O f (d + 0) v1 v3 M7) (fun x10 M8 => ?_)
        refine xZ.callv (κ := oJ) (av := [.int (yw x9), .int (yw x10)]) (rest := [.int (yw v3), .ref x8]) (st' := fun x11 => [.int (yw x11), .int (yw v3), .ref x8]) (k0 := v0) (me := xm191) hP_191 rfl (Or.inl rfl) ⟨rfl, by decide⟩ rfl rfl (Nat.le_of_ble_eq_true rfl) (by decide) hP_192 (Nat.le_of_ble_eq_true rfl) (fun _ => rfl) (k_f_Meetings_takeRoom O f (d + 2) v0 x9 x10 M8) (fun x11 M9 => ?_)
        refine xZ.k_wJ (me := xm191) hP_191 rfl (fun M10 => ?_)
        refine xZ.adv (me := xm191) hP_191 1 (pc' := 106) (lv' := [(0, .ref v0), (1, .ref v1), (2, .int (yw v2)), (3, .int (yw v3))]) (st' := [.ref v0]) rfl ?_
        refine xZ.k_gR (me := xm191) hP_191 rfl (fun x12 => ?_)
        refine xZ.adv (me := xm191) hP_191 1 (pc' := 110) (lv' := [(0, .ref v0), (1, .ref v1), (2, .int (yw v2)), (3, .int (yw v3))]) (st' := [.int (yw v3), .ref x12]) rfl ?_
        refine xZ.k_aJ (me := xm191) hP_191 rfl (fun x13 => ?_)
        refine xZ.adv (me := xm191) hP_191 1 (pc' := 112) (lv' := [(0, .ref v0), (1, .ref v1), (2, .int (yw v2)), (3, .int (yw v3))]) (st' := [.int (-1 : Int32), .int (yw x13)]) rfl ?_
        refine xZ.eqs (lv2 := [(0, .ref v0), (1, .ref v1), (2, .int (yw v2)), (3, .int (yw v3))]) (st2 := [.int (yw (-1)), .int (yw x13)]) rfl (by simp only [yl_lit, yL_lit, yw_add, yw_sub, yw_mul, yw_neg, yl_add, yl_sub, yl_mul, cj_and, cj_or, cj_xor, cj_shl, cj_shr, cj_ushr, cj_div, cj_i2c, cj_i2b, cj_dc, ck_and, ck_or, ck_xor, ck_shl, ck_shr, ck_ushr, ck_i2l, ck_l2i, ck_cmp]) ?_
        refine xZ.jc_ne (me := xm191) hP_191 rfl (fun h3 => ?_) (fun h3 => ?_)
        · skip
          refine xZ.adv (me := xm191) hP_191 3 (pc' := 42) (lv' := [(3, .int ((yw v3) + (1 : Int32))), (2, .int ((yw v2) + (1 : Int32))), (0, .ref v0), (1, .ref v1)]) (st' := []) rfl ?_
          refine xZ.eqs (lv2 := [(3, .int (yw (v3 + 1))), (2, .int (yw (v2 + 1))), (0, .ref v0), (1, .ref v1)]) (st2 := []) (by simp only [yl_lit, yL_lit, yw_add, yw_sub, yw_mul, yw_neg, yl_add, yl_sub, yl_mul, cj_and, cj_or, cj_xor, cj_shl, cj_shr, cj_ushr, cj_div, cj_i2c, cj_i2b, cj_dc, ck_and, ck_or, ck_xor, ck_shl, ck_shr, ck_ushr, ck_i2l, ck_l2i, ck_cmp]) rfl ?_
          exact xZ.sub (xsc (.tail _ (.tail _ (.head _))) (xsc (.tail _ (.tail _ (.tail _ (.head _)))) (xsc (.tail _ (.head _)) (xsc (.head _) xsn)))) (show ([3, 2, 0, 1] : List Nat).Nodup from by decide) (ih v0 v1 (v2 + 1) (v3 + 1) M10)
        · skip
          refine xZ.adv (me := xm191) hP_191 2 (pc' := 42) (lv' := [(3, .int ((yw v3) + (1 : Int32))), (0, .ref v0), (1, .ref v1), (2, .int (yw v2))]) (st' := []) rfl ?_
          refine xZ.eqs (lv2 := [(3, .int (yw (v3 + 1))), (0, .ref v0), (1, .ref v1), (2, .int (yw v2))]) (st2 := []) (by simp only [yl_lit, yL_lit, yw_add, yw_sub, yw_mul, yw_neg, yl_add, yl_sub, yl_mul, cj_and, cj_or, cj_xor, cj_shl, cj_shr, cj_ushr, cj_div, cj_i2c, cj_i2b, cj_dc, ck_and, ck_or, ck_xor, ck_shl, ck_shr, ck_ushr, ck_i2l, ck_l2i, ck_cmp]) rfl ?_
          exact xZ.sub (xsc (.tail _ (.head _)) (xsc (.tail _ (.tail _ (.head _))) (xsc (.tail _ (.tail _ (.tail _ (.head _)))) (xsc (.head _) xsn)))) (show ([3, 0, 1, 2] : List Nat).Nodup from by decide) (ih v0 v1 v2 (v3 + 1) M10)
def f_Meetings_lay_2 (O : Nat → Option va_E) (f : Nat) : Nat → Nat → Nat → Int → xM → Option (Int × xM)
  | 0, _, _, _, _ => none
  | n + 1, v0, v1, v2, M =>
    (gR O M v0 5 4).bind fun x1 =>
    (aJN O M x1).bind fun x2 =>
    if yw x2 ≤ yw v2 then (
      (gJ O M v1 2 0).bind fun x3 =>
      xcl (f_Math_min O f x3 256 M) fun x4 M1 =>
      (pJ M1 v0 5 0 x4).bind fun M2 =>
      f_Meetings_lay_42 O f f v0 v1 0 0 M2
    ) else
    (gR O M v0 5 4).bind fun x5 =>
    (wJ M x5 v2 0).bind fun M3 =>
    f_Meetings_lay_2 O f n v0 v1 (v2 + 1) M3
set_option maxRecDepth 20000 in
theorem k_f_Meetings_lay_2 (O : Nat → Option va_E) (f d : Nat) : ∀ (n : Nat) (v0 : Nat) (v1 : Nat) (v2 : Int) (M : xM), xZ oJ O (d + 3) 191 2 [(0, .ref v0), (1, .ref v1), (2, .int (yw v2))] [] M (f_Meetings_lay_2 O f n v0 v1 v2 M) := by
  intro n
  induction n with
  | zero =>
    intro v0 v1 v2 M
    exact xZ.no
  | succ n ih =>
    intro v0 v1 v2 M
    unfold f_Meetings_lay_2
    refine xZ.adv (me := xm191) hP_191 2 (pc' := 4) (lv' := [(0, .ref v0), (1, .ref v1), (2, .int (yw v2))]) (st' := [.ref v0, .int (yw v2)]) rfl ?_
    refine xZ.k_gR (me := xm191) hP_191 rfl (fun x1 => ?_)
    refine xZ.k_aJN (me := xm191) hP_191 rfl (fun x2 => ?_)
    refine xZ.jc_ge (me := xm191) hP_191 rfl (fun h1 => ?_) (fun h1 => ?_)
    · skip
      refine xZ.adv (me := xm191) hP_191 2 (pc' := 26) (lv' := [(0, .ref v0), (1, .ref v1), (2, .int (yw v2))]) (st' := [.ref v1, .ref v0]) rfl ?_
      refine xZ.k_gJ (me := xm191) hP_191 rfl (fun x3 => ?_)
      refine xZ.adv (me := xm191) hP_191 1 (pc' := 32) (lv' := [(0, .ref v0), (1, .ref v1), (2, .int (yw v2))]) (st' := [.int (256 : Int32), .int (yw x3), .ref v0]) rfl ?_
      refine xZ.eqs (lv2 := [(0, .ref v0), (1, .ref v1), (2, .int (yw v2))]) (st2 := [.int (yw 256), .int (yw x3), .ref v0]) rfl (by simp only [yl_lit, yL_lit, yw_add, yw_sub, yw_mul, yw_neg, yl_add, yl_sub, yl_mul, cj_and, cj_or, cj_xor, cj_shl, cj_shr, cj_ushr, cj_div, cj_i2c, cj_i2b, cj_dc, ck_and, ck_or, ck_xor, ck_shl, ck_shr, ck_ushr, ck_i2l, ck_l2i, ck_cmp]) ?_
      refine xZ.calls (κ := oJ) (av := [.int (yw x3), .int (yw 256)]) (rest := [.ref v0]) (st' := fun x4 => [.int (yw x4), .ref v0]) (me := xm191) hP_191 rfl rfl rfl (Nat.le_of_ble_eq_true rfl) (by decide) hP_248 (Nat.le_of_ble_eq_true rfl) (fun _ => rfl) (k_f_Math_min O f (d + 2) x3 256 M) (fun x4 M1 => ?_)
      refine xZ.k_pJ (me := xm191) hP_191 rfl (fun M2 => ?_)
      refine xZ.adv (me := xm191) hP_191 4 (pc' := 42) (lv' := [(3, .int (0 : Int32)), (2, .int (0 : Int32)), (0, .ref v0), (1, .ref v1)]) (st' := []) rfl ?_
      refine xZ.eqs (lv2 := [(3, .int (yw 0)), (2, .int (yw 0)), (0, .ref v0), (1, .ref v1)]) (st2 := []) (by simp only [yl_lit, yL_lit, yw_add, yw_sub, yw_mul, yw_neg, yl_add, yl_sub, yl_mul, cj_and, cj_or, cj_xor, cj_shl, cj_shr, cj_ushr, cj_div, cj_i2c, cj_i2b, cj_dc, ck_and, ck_or, ck_xor, ck_shl, ck_shr, ck_ushr, ck_i2l, ck_l2i, ck_cmp]) rfl ?_
      exact xZ.sub (xsc (.tail _ (.tail _ (.head _))) (xsc (.tail _ (.tail _ (.tail _ (.head _)))) (xsc (.tail _ (.head _)) (xsc (.head _) xsn)))) (show ([3, 2, 0, 1] : List Nat).Nodup from by decide) (k_f_Meetings_lay_42 O f d f v0 v1 0 0 M2)
    · skip
      refine xZ.adv (me := xm191) hP_191 1 (pc' := 12) (lv' := [(0, .ref v0), (1, .ref v1), (2, .int (yw v2))]) (st' := [.ref v0]) rfl ?_
      refine xZ.k_gR (me := xm191) hP_191 rfl (fun x5 => ?_)
      refine xZ.adv (me := xm191) hP_191 2 (pc' := 17) (lv' := [(0, .ref v0), (1, .ref v1), (2, .int (yw v2))]) (st' := [.int (0 : Int32), .int (yw v2), .ref x5]) rfl ?_
      refine xZ.eqs (lv2 := [(0, .ref v0), (1, .ref v1), (2, .int (yw v2))]) (st2 := [.int (yw 0), .int (yw v2), .ref x5]) rfl (by simp only [yl_lit, yL_lit, yw_add, yw_sub, yw_mul, yw_neg, yl_add, yl_sub, yl_mul, cj_and, cj_or, cj_xor, cj_shl, cj_shr, cj_ushr, cj_div, cj_i2c, cj_i2b, cj_dc, ck_and, ck_or, ck_xor, ck_shl, ck_shr, ck_ushr, ck_i2l, ck_l2i, ck_cmp]) ?_
      refine xZ.k_wJ (me := xm191) hP_191 rfl (fun M3 => ?_)
      refine xZ.adv (me := xm191) hP_191 2 (pc' := 2) (lv' := [(2, .int ((yw v2) + (1 : Int32))), (0, .ref v0), (1, .ref v1)]) (st' := []) rfl ?_
      refine xZ.eqs (lv2 := [(2, .int (yw (v2 + 1))), (0, .ref v0), (1, .ref v1)]) (st2 := []) (by simp only [yl_lit, yL_lit, yw_add, yw_sub, yw_mul, yw_neg, yl_add, yl_sub, yl_mul, cj_and, cj_or, cj_xor, cj_shl, cj_shr, cj_ushr, cj_div, cj_i2c, cj_i2b, cj_dc, ck_and, ck_or, ck_xor, ck_shl, ck_shr, ck_ushr, ck_i2l, ck_l2i, ck_cmp]) rfl ?_
      exact xZ.sub (xsc (.tail _ (.head _)) (xsc (.tail _ (.tail _ (.head _))) (xsc (.head _) xsn))) (show ([2, 0, 1] : List Nat).Nodup from by decide) (ih v0 v1 (v2 + 1) M3)
def f_Meetings_lay (O : Nat → Option va_E) (f : Nat) (v0 : Nat) (v1 : Nat) (M : xM) : Option (Int × xM) :=
  f_Meetings_lay_2 O f f v0 v1 0 M
set_option maxRecDepth 20000 in
theorem k_f_Meetings_lay (O : Nat → Option va_E) (f d : Nat) (v0 : Nat) (v1 : Nat) (M : xM) : xZ oJ O (d + 3) 191 0 [(0, .ref v0), (1, .ref v1)] [] M (f_Meetings_lay O f v0 v1 M) := by
  unfold f_Meetings_lay
  refine xZ.adv (me := xm191) hP_191 2 (pc' := 2) (lv' := [(2, .int (0 : Int32)), (0, .ref v0), (1, .ref v1)]) (st' := []) rfl ?_
  refine xZ.eqs (lv2 := [(2, .int (yw 0)), (0, .ref v0), (1, .ref v1)]) (st2 := []) (by simp only [yl_lit, yL_lit, yw_add, yw_sub, yw_mul, yw_neg, yl_add, yl_sub, yl_mul, cj_and, cj_or, cj_xor, cj_shl, cj_shr, cj_ushr, cj_div, cj_i2c, cj_i2b, cj_dc, ck_and, ck_or, ck_xor, ck_shl, ck_shr, ck_ushr, ck_i2l, ck_l2i, ck_cmp]) rfl ?_
  exact xZ.sub (xsc (.tail _ (.head _)) (xsc (.tail _ (.tail _ (.head _))) (xsc (.head _) xsn))) (show ([2, 0, 1] : List Nat).Nodup from by decide) (k_f_Meetings_lay_2 O f d f v0 v1 0 M)
def f_Calendarhall_layRooms (O : Nat → Option va_E) (f : Nat) (v0 : Nat) (v1 : Int) (v2 : Int) (M : xM) : Option (Int × xM) :=
  xcl (f_Calendarhall_needPiece O f v1 v2 10080 M) fun _ M1 =>
  (gR O M1 v0 12 0).bind fun x2 =>
  (gR O M1 v0 12 4).bind fun x3 =>
  (gR O M1 v0 12 0).bind fun x4 =>
  (isO O M1 x4 4).bind fun _ =>
  xcl (f_Hall_seriesWithRoom O f x4 M1) fun x5 M2 =>
  (isO O M2 x2 4).bind fun _ =>
  xcl (f_Hall_collect O f x2 x3 x5 v1 v2 M2) fun _ M3 =>
  (gR O M3 v0 12 5).bind fun x7 =>
  (gR O M3 v0 12 4).bind fun x8 =>
  (isO O M3 x7 5).bind fun _ =>
  xcl (f_Meetings_lay O f x7 x8 M3) fun x9 M4 =>
  some (x9, M4)
set_option maxRecDepth 20000 in
theorem k_f_Calendarhall_layRooms (O : Nat → Option va_E) (f d : Nat) (v0 : Nat) (v1 : Int) (v2 : Int) (M : xM) : xZ oJ O (d + 7) 188 0 [(0, .ref v0), (1, .int (yw v1)), (2, .int (yw v2))] [] M (f_Calendarhall_layRooms O f v0 v1 v2 M) := by
  unfold f_Calendarhall_layRooms
  refine xZ.adv (me := xm188) hP_188 3 (pc' := 5) (lv' := [(0, .ref v0), (1, .int (yw v1)), (2, .int (yw v2))]) (st' := [.int (10080 : Int32), .int (yw v2), .int (yw v1)]) rfl ?_
  refine xZ.eqs (lv2 := [(0, .ref v0), (1, .int (yw v1)), (2, .int (yw v2))]) (st2 := [.int (yw 10080), .int (yw v2), .int (yw v1)]) rfl (by simp only [yl_lit, yL_lit, yw_add, yw_sub, yw_mul, yw_neg, yl_add, yl_sub, yl_mul, cj_and, cj_or, cj_xor, cj_shl, cj_shr, cj_ushr, cj_div, cj_i2c, cj_i2b, cj_dc, ck_and, ck_or, ck_xor, ck_shl, ck_shr, ck_ushr, ck_i2l, ck_l2i, ck_cmp]) ?_
  refine xZ.calls (κ := oU) (av := [.int (yw v1), .int (yw v2), .int (yw 10080)]) (rest := []) (st' := fun _ => []) (me := xm188) hP_188 rfl rfl rfl (Nat.le_of_ble_eq_true rfl) (by decide) hP_114 (Nat.le_of_ble_eq_true rfl) (fun _ => rfl) (k_f_Calendarhall_needPiece O f (d + 5) v1 v2 10080 M) (fun _ M1 => ?_)
  refine xZ.adv (me := xm188) hP_188 1 (pc' := 9) (lv' := [(0, .ref v0), (1, .int (yw v1)), (2, .int (yw v2))]) (st' := [.ref v0]) rfl ?_
  refine xZ.k_gR (me := xm188) hP_188 rfl (fun x2 => ?_)
  refine xZ.adv (me := xm188) hP_188 1 (pc' := 13) (lv' := [(0, .ref v0), (1, .int (yw v1)), (2, .int (yw v2))]) (st' := [.ref v0, .ref x2]) rfl ?_
  refine xZ.k_gR (me := xm188) hP_188 rfl (fun x3 => ?_)
  refine xZ.adv (me := xm188) hP_188 1 (pc' := 17) (lv' := [(0, .ref v0), (1, .int (yw v1)), (2, .int (yw v2))]) (st' := [.ref v0, .ref x3, .ref x2]) rfl ?_
  refine xZ.k_gR (me := xm188) hP_188 rfl (fun x4 => ?_)
  refine xZ.callv (κ := oJ) (av := []) (rest := [.ref x3, .ref x2]) (st' := fun x5 => [.int (yw x5), .ref x3, .ref x2]) (k0 := x4) (me := xm188) hP_188 rfl (Or.inl rfl) ⟨rfl, by decide⟩ rfl rfl (Nat.le_of_ble_eq_true rfl) (by decide) hP_189 (Nat.le_of_ble_eq_true rfl) (fun _ => rfl) (k_f_Hall_seriesWithRoom O f (d + 6) x4 M1) (fun x5 M2 => ?_)
  refine xZ.adv (me := xm188) hP_188 2 (pc' := 25) (lv' := [(0, .ref v0), (1, .int (yw v1)), (2, .int (yw v2))]) (st' := [.int (yw v2), .int (yw v1), .int (yw x5), .ref x3, .ref x2]) rfl ?_
  refine xZ.callv (κ := oU) (av := [.ref x3, .int (yw x5), .int (yw v1), .int (yw v2)]) (rest := []) (st' := fun _ => []) (k0 := x2) (me := xm188) hP_188 rfl (Or.inl rfl) ⟨rfl, by decide⟩ rfl rfl (Nat.le_of_ble_eq_true rfl) (by decide) hP_190 (Nat.le_of_ble_eq_true rfl) (fun _ => rfl) (k_f_Hall_collect O f (d + 0) x2 x3 x5 v1 v2 M2) (fun _ M3 => ?_)
  refine xZ.adv (me := xm188) hP_188 1 (pc' := 29) (lv' := [(0, .ref v0), (1, .int (yw v1)), (2, .int (yw v2))]) (st' := [.ref v0]) rfl ?_
  refine xZ.k_gR (me := xm188) hP_188 rfl (fun x7 => ?_)
  refine xZ.adv (me := xm188) hP_188 1 (pc' := 33) (lv' := [(0, .ref v0), (1, .int (yw v1)), (2, .int (yw v2))]) (st' := [.ref v0, .ref x7]) rfl ?_
  refine xZ.k_gR (me := xm188) hP_188 rfl (fun x8 => ?_)
  refine xZ.callv (κ := oJ) (av := [.ref x8]) (rest := []) (st' := fun x9 => [.int (yw x9)]) (k0 := x7) (me := xm188) hP_188 rfl (Or.inl rfl) ⟨rfl, by decide⟩ rfl rfl (Nat.le_of_ble_eq_true rfl) (by decide) hP_191 (Nat.le_of_ble_eq_true rfl) (fun _ => rfl) (k_f_Meetings_lay O f (d + 3) x7 x8 M3) (fun x9 M4 => ?_)
  exact xZ.jreti (me := xm188) hP_188 rfl rfl
def f_Dates_mostAtOnce_62 (O : Nat → Option va_E) (f : Nat) (K4 : Nat → Int → Int → xM → Option (Int × xM)) (v0 : Nat) (v1 : Int) (v2 : Int) (v4 : Int) (M : xM) : Option (Int × xM) :=
  xcl (f_Math_max O f v1 v4 M) fun x1 M1 =>
  K4 v0 x1 (v2 + 1) M1
set_option maxRecDepth 20000 in
theorem k_f_Dates_mostAtOnce_62 (O : Nat → Option va_E) (f d : Nat) (K4 : Nat → Int → Int → xM → Option (Int × xM)) (hK4 : ∀ (v0 : Nat) (v1 : Int) (v2 : Int) M, xZ oJ O (d + 3) 194 4 [(0, .ref v0), (1, .int (yw v1)), (2, .int (yw v2))] [] M (K4 v0 v1 v2 M)) (v0 : Nat) (v1 : Int) (v2 : Int) (v4 : Int) (M : xM) : xZ oJ O (d + 3) 194 62 [(0, .ref v0), (1, .int (yw v1)), (2, .int (yw v2)), (4, .int (yw v4))] [] M (f_Dates_mostAtOnce_62 O f K4 v0 v1 v2 v4 M) := by
  unfold f_Dates_mostAtOnce_62
  refine xZ.adv (me := xm194) hP_194 2 (pc' := 65) (lv' := [(0, .ref v0), (1, .int (yw v1)), (2, .int (yw v2)), (4, .int (yw v4))]) (st' := [.int (yw v4), .int (yw v1)]) rfl ?_
  refine xZ.calls (κ := oJ) (av := [.int (yw v1), .int (yw v4)]) (rest := []) (st' := fun x1 => [.int (yw x1)]) (me := xm194) hP_194 rfl rfl rfl (Nat.le_of_ble_eq_true rfl) (by decide) hP_247 (Nat.le_of_ble_eq_true rfl) (fun _ => rfl) (k_f_Math_max O f (d + 2) v1 v4 M) (fun x1 M1 => ?_)
  refine xZ.adv (me := xm194) hP_194 3 (pc' := 4) (lv' := [(2, .int ((yw v2) + (1 : Int32))), (1, .int (yw x1)), (0, .ref v0), (4, .int (yw v4))]) (st' := []) rfl ?_
  refine xZ.eqs (lv2 := [(2, .int (yw (v2 + 1))), (1, .int (yw x1)), (0, .ref v0), (4, .int (yw v4))]) (st2 := []) (by simp only [yl_lit, yL_lit, yw_add, yw_sub, yw_mul, yw_neg, yl_add, yl_sub, yl_mul, cj_and, cj_or, cj_xor, cj_shl, cj_shr, cj_ushr, cj_div, cj_i2c, cj_i2b, cj_dc, ck_and, ck_or, ck_xor, ck_shl, ck_shr, ck_ushr, ck_i2l, ck_l2i, ck_cmp]) rfl ?_
  exact xZ.sub (xsc (.tail _ (.tail _ (.head _))) (xsc (.tail _ (.head _)) (xsc (.head _) xsn))) (show ([2, 1, 0, 4] : List Nat).Nodup from by decide) (hK4 v0 x1 (v2 + 1) M1)
def f_Dates_mostAtOnce_24 (O : Nat → Option va_E) (f : Nat) (K4 : Nat → Int → Int → xM → Option (Int × xM)) : Nat → Nat → Int → Int → Int → Int → Int → xM → Option (Int × xM)
  | 0, _, _, _, _, _, _, _ => none
  | n + 1, v0, v1, v2, v3, v4, v5, M =>
    if yw v5 < yw 0 then (
      f_Dates_mostAtOnce_62 O f K4 v0 v1 v2 v4 M
    ) else
    (isO O M v0 2).bind fun _ =>
    xcl (f_Dates_beginAt O f v0 v5 M) fun x1 M1 =>
    if yw (x1 + 600) ≤ yw v3 then (
      f_Dates_mostAtOnce_62 O f K4 v0 v1 v2 v4 M1
    ) else
    (isO O M1 v0 2).bind fun _ =>
    xcl (f_Dates_endAt O f v0 v5 M1) fun x2 M2 =>
    if yw x2 ≤ yw v3 then (
      f_Dates_mostAtOnce_24 O f K4 n v0 v1 v2 v3 v4 (v5 + (-1)) M2
    ) else
    f_Dates_mostAtOnce_24 O f K4 n v0 v1 v2 v3 (v4 + 1) (v5 + (-1)) M2
set_option maxRecDepth 20000 in
theorem k_f_Dates_mostAtOnce_24 (O : Nat → Option va_E) (f d : Nat) (K4 : Nat → Int → Int → xM → Option (Int × xM)) (hK4 : ∀ (v0 : Nat) (v1 : Int) (v2 : Int) M, xZ oJ O (d + 3) 194 4 [(0, .ref v0), (1, .int (yw v1)), (2, .int (yw v2))] [] M (K4 v0 v1 v2 M)) : ∀ (n : Nat) (v0 : Nat) (v1 : Int) (v2 : Int) (v3 : Int) (v4 : Int) (v5 : Int) (M : xM), xZ oJ O (d + 3) 194 24 [(0, .ref v0), (1, .int (yw v1)), (2, .int (yw v2)), (3, .int (yw v3)), (4, .int (yw v4)), (5, .int (yw v5))] [] M (f_Dates_mostAtOnce_24 O f K4 n v0 v1 v2 v3 v4 v5 M) := by
  intro n
  induction n with
  | zero =>
    intro v0 v1 v2 v3 v4 v5 M
    exact xZ.no
  | succ n ih =>
    intro v0 v1 v2 v3 v4 v5 M
    unfold f_Dates_mostAtOnce_24
    refine xZ.adv (me := xm194) hP_194 1 (pc' := 26) (lv' := [(0, .ref v0), (1, .int (yw v1)), (2, .int (yw v2)), (3, .int (yw v3)), (4, .int (yw v4)), (5, .int (yw v5))]) (st' := [.int (yw v5)]) rfl ?_
    refine xZ.jf_lt (me := xm194) hP_194 rfl (fun h1 => ?_) (fun h1 => ?_)
    · skip
      exact xZ.sub (xsc (.head _) (xsc (.tail _ (.head _)) (xsc (.tail _ (.tail _ (.head _))) (xsc (.tail _ (.tail _ (.tail _ (.tail _ (.head _))))) xsn)))) (show ([0, 1, 2, 3, 4, 5] : List Nat).Nodup from by decide) (k_f_Dates_mostAtOnce_62 O f d K4 hK4 v0 v1 v2 v4 M)
    · skip
      refine xZ.adv (me := xm194) hP_194 2 (pc' := 32) (lv' := [(0, .ref v0), (1, .int (yw v1)), (2, .int (yw v2)), (3, .int (yw v3)), (4, .int (yw v4)), (5, .int (yw v5))]) (st' := [.int (yw v5), .ref v0]) rfl ?_
      refine xZ.callv (κ := oJ) (av := [.int (yw v5)]) (rest := []) (st' := fun x1 => [.int (yw x1)]) (k0 := v0) (me := xm194) hP_194 rfl (Or.inl rfl) ⟨rfl, by decide⟩ rfl rfl (Nat.le_of_ble_eq_true rfl) (by decide) hP_171 (Nat.le_of_ble_eq_true rfl) (fun _ => rfl) (k_f_Dates_beginAt O f (d + 1) v0 v5 M) (fun x1 M1 => ?_)
      refine xZ.adv (me := xm194) hP_194 3 (pc' := 40) (lv' := [(0, .ref v0), (1, .int (yw v1)), (2, .int (yw v2)), (3, .int (yw v3)), (4, .int (yw v4)), (5, .int (yw v5))]) (st' := [.int (yw v3), .int ((yw x1) + (600 : Int32))]) rfl ?_
      refine xZ.eqs (lv2 := [(0, .ref v0), (1, .int (yw v1)), (2, .int (yw v2)), (3, .int (yw v3)), (4, .int (yw v4)), (5, .int (yw v5))]) (st2 := [.int (yw v3), .int (yw (x1 + 600))]) rfl (by simp only [yl_lit, yL_lit, yw_add, yw_sub, yw_mul, yw_neg, yl_add, yl_sub, yl_mul, cj_and, cj_or, cj_xor, cj_shl, cj_shr, cj_ushr, cj_div, cj_i2c, cj_i2b, cj_dc, ck_and, ck_or, ck_xor, ck_shl, ck_shr, ck_ushr, ck_i2l, ck_l2i, ck_cmp]) ?_
      refine xZ.jc_le (me := xm194) hP_194 rfl (fun h2 => ?_) (fun h2 => ?_)
      · skip
        exact xZ.sub (xsc (.head _) (xsc (.tail _ (.head _)) (xsc (.tail _ (.tail _ (.head _))) (xsc (.tail _ (.tail _ (.tail _ (.tail _ (.head _))))) xsn)))) (show ([0, 1, 2, 3, 4, 5] : List Nat).Nodup from by decide) (k_f_Dates_mostAtOnce_62 O f d K4 hK4 v0 v1 v2 v4 M1)
      · skip
        refine xZ.adv (me := xm194) hP_194 2 (pc' := 46) (lv' := [(0, .ref v0), (1, .int (yw v1)), (2, .int (yw v2)), (3, .int (yw v3)), (4, .int (yw v4)), (5, .int (yw v5))]) (st' := [.int (yw v5), .ref v0]) rfl ?_
        refine xZ.callv (κ := oJ) (av := [.int (yw v5)]) (rest := []) (st' := fun x2 => [.int (yw x2)]) (k0 := v0) (me := xm194) hP_194 rfl (Or.inl rfl) ⟨rfl, by decide⟩ rfl rfl (Nat.le_of_ble_eq_true rfl) (by decide) hP_170 (Nat.le_of_ble_eq_true rfl) (fun _ => rfl) (k_f_Dates_endAt O f (d + 0) v0 v5 M1) (fun x2 M2 => ?_)
        refine xZ.adv (me := xm194) hP_194 1 (pc' := 50) (lv' := [(0, .ref v0), (1, .int (yw v1)), (2, .int (yw v2)), (3, .int (yw v3)), (4, .int (yw v4)), (5, .int (yw v5))]) (st' := [.int (yw v3), .int (yw x2)]) rfl ?_
        refine xZ.jc_le (me := xm194) hP_194 rfl (fun h3 => ?_) (fun h3 => ?_)
        · skip
          refine xZ.adv (me := xm194) hP_194 2 (pc' := 24) (lv' := [(5, .int ((yw v5) + (-1 : Int32))), (0, .ref v0), (1, .int (yw v1)), (2, .int (yw v2)), (3, .int (yw v3)), (4, .int (yw v4))]) (st' := []) rfl ?_
          refine xZ.eqs (lv2 := [(5, .int (yw (v5 + (-1)))), (0, .ref v0), (1, .int (yw v1)), (2, .int (yw v2)), (3, .int (yw v3)), (4, .int (yw v4))]) (st2 := []) (by simp only [yl_lit, yL_lit, yw_add, yw_sub, yw_mul, yw_neg, yl_add, yl_sub, yl_mul, cj_and, cj_or, cj_xor, cj_shl, cj_shr, cj_ushr, cj_div, cj_i2c, cj_i2b, cj_dc, ck_and, ck_or, ck_xor, ck_shl, ck_shr, ck_ushr, ck_i2l, ck_l2i, ck_cmp]) rfl ?_
          exact xZ.sub (xsc (.tail _ (.head _)) (xsc (.tail _ (.tail _ (.head _))) (xsc (.tail _ (.tail _ (.tail _ (.head _)))) (xsc (.tail _ (.tail _ (.tail _ (.tail _ (.head _))))) (xsc (.tail _ (.tail _ (.tail _ (.tail _ (.tail _ (.head _)))))) (xsc (.head _) xsn)))))) (show ([5, 0, 1, 2, 3, 4] : List Nat).Nodup from by decide) (ih v0 v1 v2 v3 v4 (v5 + (-1)) M2)
        · skip
          refine xZ.adv (me := xm194) hP_194 3 (pc' := 24) (lv' := [(5, .int ((yw v5) + (-1 : Int32))), (4, .int ((yw v4) + (1 : Int32))), (0, .ref v0), (1, .int (yw v1)), (2, .int (yw v2)), (3, .int (yw v3))]) (st' := []) rfl ?_
          refine xZ.eqs (lv2 := [(5, .int (yw (v5 + (-1)))), (4, .int (yw (v4 + 1))), (0, .ref v0), (1, .int (yw v1)), (2, .int (yw v2)), (3, .int (yw v3))]) (st2 := []) (by simp only [yl_lit, yL_lit, yw_add, yw_sub, yw_mul, yw_neg, yl_add, yl_sub, yl_mul, cj_and, cj_or, cj_xor, cj_shl, cj_shr, cj_ushr, cj_div, cj_i2c, cj_i2b, cj_dc, ck_and, ck_or, ck_xor, ck_shl, ck_shr, ck_ushr, ck_i2l, ck_l2i, ck_cmp]) rfl ?_
          exact xZ.sub (xsc (.tail _ (.tail _ (.head _))) (xsc (.tail _ (.tail _ (.tail _ (.head _)))) (xsc (.tail _ (.tail _ (.tail _ (.tail _ (.head _))))) (xsc (.tail _ (.tail _ (.tail _ (.tail _ (.tail _ (.head _)))))) (xsc (.tail _ (.head _)) (xsc (.head _) xsn)))))) (show ([5, 4, 0, 1, 2, 3] : List Nat).Nodup from by decide) (ih v0 v1 v2 v3 (v4 + 1) (v5 + (-1)) M2)
def f_Dates_mostAtOnce_4 (O : Nat → Option va_E) (f : Nat) : Nat → Nat → Int → Int → xM → Option (Int × xM)
  | 0, _, _, _, _ => none
  | n + 1, v0, v1, v2, M =>
    (gJ O M v0 2 0).bind fun x1 =>
    if yw x1 ≤ yw v2 then (
      some (v1, M)
    ) else
    (isO O M v0 2).bind fun _ =>
    xcl (f_Dates_beginAt O f v0 v2 M) fun x2 M1 =>
    f_Dates_mostAtOnce_24 O f (f_Dates_mostAtOnce_4 O f n) f v0 v1 v2 x2 0 v2 M1
set_option maxRecDepth 20000 in
theorem k_f_Dates_mostAtOnce_4 (O : Nat → Option va_E) (f d : Nat) : ∀ (n : Nat) (v0 : Nat) (v1 : Int) (v2 : Int) (M : xM), xZ oJ O (d + 3) 194 4 [(0, .ref v0), (1, .int (yw v1)), (2, .int (yw v2))] [] M (f_Dates_mostAtOnce_4 O f n v0 v1 v2 M) := by
  intro n
  induction n with
  | zero =>
    intro v0 v1 v2 M
    exact xZ.no
  | succ n ih =>
    intro v0 v1 v2 M
    unfold f_Dates_mostAtOnce_4
    refine xZ.adv (me := xm194) hP_194 2 (pc' := 6) (lv' := [(0, .ref v0), (1, .int (yw v1)), (2, .int (yw v2))]) (st' := [.ref v0, .int (yw v2)]) rfl ?_
    refine xZ.k_gJ (me := xm194) hP_194 rfl (fun x1 => ?_)
    refine xZ.jc_ge (me := xm194) hP_194 rfl (fun h1 => ?_) (fun h1 => ?_)
    · skip
      refine xZ.adv (me := xm194) hP_194 1 (pc' := 76) (lv' := [(0, .ref v0), (1, .int (yw v1)), (2, .int (yw v2))]) (st' := [.int (yw v1)]) rfl ?_
      exact xZ.jreti (me := xm194) hP_194 rfl rfl
    · skip
      refine xZ.adv (me := xm194) hP_194 2 (pc' := 14) (lv' := [(0, .ref v0), (1, .int (yw v1)), (2, .int (yw v2))]) (st' := [.int (yw v2), .ref v0]) rfl ?_
      refine xZ.callv (κ := oJ) (av := [.int (yw v2)]) (rest := []) (st' := fun x2 => [.int (yw x2)]) (k0 := v0) (me := xm194) hP_194 rfl (Or.inl rfl) ⟨rfl, by decide⟩ rfl rfl (Nat.le_of_ble_eq_true rfl) (by decide) hP_171 (Nat.le_of_ble_eq_true rfl) (fun _ => rfl) (k_f_Dates_beginAt O f (d + 1) v0 v2 M) (fun x2 M1 => ?_)
      refine xZ.adv (me := xm194) hP_194 5 (pc' := 24) (lv' := [(5, .int (yw v2)), (4, .int (0 : Int32)), (3, .int (yw x2)), (0, .ref v0), (1, .int (yw v1)), (2, .int (yw v2))]) (st' := []) rfl ?_
      refine xZ.eqs (lv2 := [(5, .int (yw v2)), (4, .int (yw 0)), (3, .int (yw x2)), (0, .ref v0), (1, .int (yw v1)), (2, .int (yw v2))]) (st2 := []) (by simp only [yl_lit, yL_lit, yw_add, yw_sub, yw_mul, yw_neg, yl_add, yl_sub, yl_mul, cj_and, cj_or, cj_xor, cj_shl, cj_shr, cj_ushr, cj_div, cj_i2c, cj_i2b, cj_dc, ck_and, ck_or, ck_xor, ck_shl, ck_shr, ck_ushr, ck_i2l, ck_l2i, ck_cmp]) rfl ?_
      exact xZ.sub (xsc (.tail _ (.tail _ (.tail _ (.head _)))) (xsc (.tail _ (.tail _ (.tail _ (.tail _ (.head _))))) (xsc (.tail _ (.tail _ (.tail _ (.tail _ (.tail _ (.head _)))))) (xsc (.tail _ (.tail _ (.head _))) (xsc (.tail _ (.head _)) (xsc (.head _) xsn)))))) (show ([5, 4, 3, 0, 1, 2] : List Nat).Nodup from by decide) (k_f_Dates_mostAtOnce_24 O f d (f_Dates_mostAtOnce_4 O f n) ih f v0 v1 v2 x2 0 v2 M1)
def f_Dates_mostAtOnce (O : Nat → Option va_E) (f : Nat) (v0 : Nat) (M : xM) : Option (Int × xM) :=
  f_Dates_mostAtOnce_4 O f f v0 0 0 M
set_option maxRecDepth 20000 in
theorem k_f_Dates_mostAtOnce (O : Nat → Option va_E) (f d : Nat) (v0 : Nat) (M : xM) : xZ oJ O (d + 3) 194 0 [(0, .ref v0)] [] M (f_Dates_mostAtOnce O f v0 M) := by
  unfold f_Dates_mostAtOnce
  refine xZ.adv (me := xm194) hP_194 4 (pc' := 4) (lv' := [(2, .int (0 : Int32)), (1, .int (0 : Int32)), (0, .ref v0)]) (st' := []) rfl ?_
  refine xZ.eqs (lv2 := [(2, .int (yw 0)), (1, .int (yw 0)), (0, .ref v0)]) (st2 := []) (by simp only [yl_lit, yL_lit, yw_add, yw_sub, yw_mul, yw_neg, yl_add, yl_sub, yl_mul, cj_and, cj_or, cj_xor, cj_shl, cj_shr, cj_ushr, cj_div, cj_i2c, cj_i2b, cj_dc, ck_and, ck_or, ck_xor, ck_shl, ck_shr, ck_ushr, ck_i2l, ck_l2i, ck_cmp]) rfl ?_
  exact xZ.sub (xsc (.tail _ (.tail _ (.head _))) (xsc (.tail _ (.head _)) (xsc (.head _) xsn))) (show ([2, 1, 0] : List Nat).Nodup from by decide) (k_f_Dates_mostAtOnce_4 O f d f v0 0 0 M)
def f_Calendarhall_roomsNeeded (O : Nat → Option va_E) (f : Nat) (v0 : Nat) (v1 : Int) (v2 : Int) (M : xM) : Option (Int × xM) :=
  xcl (f_Calendarhall_needPiece O f v1 v2 10080 M) fun _ M1 =>
  (gR O M1 v0 12 0).bind fun x2 =>
  (gR O M1 v0 12 4).bind fun x3 =>
  (gR O M1 v0 12 0).bind fun x4 =>
  (isO O M1 x4 4).bind fun _ =>
  xcl (f_Hall_seriesWithRoom O f x4 M1) fun x5 M2 =>
  (isO O M2 x2 4).bind fun _ =>
  xcl (f_Hall_collect O f x2 x3 x5 v1 v2 M2) fun _ M3 =>
  (gR O M3 v0 12 4).bind fun x7 =>
  (isO O M3 x7 2).bind fun _ =>
  xcl (f_Dates_mostAtOnce O f x7 M3) fun x8 M4 =>
  some (x8, M4)
set_option maxRecDepth 20000 in
theorem k_f_Calendarhall_roomsNeeded (O : Nat → Option va_E) (f d : Nat) (v0 : Nat) (v1 : Int) (v2 : Int) (M : xM) : xZ oJ O (d + 7) 193 0 [(0, .ref v0), (1, .int (yw v1)), (2, .int (yw v2))] [] M (f_Calendarhall_roomsNeeded O f v0 v1 v2 M) := by
  unfold f_Calendarhall_roomsNeeded
  refine xZ.adv (me := xm193) hP_193 3 (pc' := 5) (lv' := [(0, .ref v0), (1, .int (yw v1)), (2, .int (yw v2))]) (st' := [.int (10080 : Int32), .int (yw v2), .int (yw v1)]) rfl ?_
  refine xZ.eqs (lv2 := [(0, .ref v0), (1, .int (yw v1)), (2, .int (yw v2))]) (st2 := [.int (yw 10080), .int (yw v2), .int (yw v1)]) rfl (by simp only [yl_lit, yL_lit, yw_add, yw_sub, yw_mul, yw_neg, yl_add, yl_sub, yl_mul, cj_and, cj_or, cj_xor, cj_shl, cj_shr, cj_ushr, cj_div, cj_i2c, cj_i2b, cj_dc, ck_and, ck_or, ck_xor, ck_shl, ck_shr, ck_ushr, ck_i2l, ck_l2i, ck_cmp]) ?_
  refine xZ.calls (κ := oU) (av := [.int (yw v1), .int (yw v2), .int (yw 10080)]) (rest := []) (st' := fun _ => []) (me := xm193) hP_193 rfl rfl rfl (Nat.le_of_ble_eq_true rfl) (by decide) hP_114 (Nat.le_of_ble_eq_true rfl) (fun _ => rfl) (k_f_Calendarhall_needPiece O f (d + 5) v1 v2 10080 M) (fun _ M1 => ?_)
  refine xZ.adv (me := xm193) hP_193 1 (pc' := 9) (lv' := [(0, .ref v0), (1, .int (yw v1)), (2, .int (yw v2))]) (st' := [.ref v0]) rfl ?_
  refine xZ.k_gR (me := xm193) hP_193 rfl (fun x2 => ?_)
  refine xZ.adv (me := xm193) hP_193 1 (pc' := 13) (lv' := [(0, .ref v0), (1, .int (yw v1)), (2, .int (yw v2))]) (st' := [.ref v0, .ref x2]) rfl ?_
  refine xZ.k_gR (me := xm193) hP_193 rfl (fun x3 => ?_)
  refine xZ.adv (me := xm193) hP_193 1 (pc' := 17) (lv' := [(0, .ref v0), (1, .int (yw v1)), (2, .int (yw v2))]) (st' := [.ref v0, .ref x3, .ref x2]) rfl ?_
  refine xZ.k_gR (me := xm193) hP_193 rfl (fun x4 => ?_)
  refine xZ.callv (κ := oJ) (av := []) (rest := [.ref x3, .ref x2]) (st' := fun x5 => [.int (yw x5), .ref x3, .ref x2]) (k0 := x4) (me := xm193) hP_193 rfl (Or.inl rfl) ⟨rfl, by decide⟩ rfl rfl (Nat.le_of_ble_eq_true rfl) (by decide) hP_189 (Nat.le_of_ble_eq_true rfl) (fun _ => rfl) (k_f_Hall_seriesWithRoom O f (d + 6) x4 M1) (fun x5 M2 => ?_)
  refine xZ.adv (me := xm193) hP_193 2 (pc' := 25) (lv' := [(0, .ref v0), (1, .int (yw v1)), (2, .int (yw v2))]) (st' := [.int (yw v2), .int (yw v1), .int (yw x5), .ref x3, .ref x2]) rfl ?_
  refine xZ.callv (κ := oU) (av := [.ref x3, .int (yw x5), .int (yw v1), .int (yw v2)]) (rest := []) (st' := fun _ => []) (k0 := x2) (me := xm193) hP_193 rfl (Or.inl rfl) ⟨rfl, by decide⟩ rfl rfl (Nat.le_of_ble_eq_true rfl) (by decide) hP_190 (Nat.le_of_ble_eq_true rfl) (fun _ => rfl) (k_f_Hall_collect O f (d + 0) x2 x3 x5 v1 v2 M2) (fun _ M3 => ?_)
  refine xZ.adv (me := xm193) hP_193 1 (pc' := 29) (lv' := [(0, .ref v0), (1, .int (yw v1)), (2, .int (yw v2))]) (st' := [.ref v0]) rfl ?_
  refine xZ.k_gR (me := xm193) hP_193 rfl (fun x7 => ?_)
  refine xZ.callv (κ := oJ) (av := []) (rest := []) (st' := fun x8 => [.int (yw x8)]) (k0 := x7) (me := xm193) hP_193 rfl (Or.inl rfl) ⟨rfl, by decide⟩ rfl rfl (Nat.le_of_ble_eq_true rfl) (by decide) hP_194 (Nat.le_of_ble_eq_true rfl) (fun _ => rfl) (k_f_Dates_mostAtOnce O f (d + 3) x7 M3) (fun x8 M4 => ?_)
  exact xZ.jreti (me := xm193) hP_193 rfl rfl
def f_Meetings_placeOf_2 (O : Nat → Option va_E) (f : Nat) : Nat → Nat → Int → Int → Int → xM → Option (Int × xM)
  | 0, _, _, _, _, _ => none
  | n + 1, v0, v1, v2, v3, M =>
    (gJ O M v0 5 0).bind fun x1 =>
    if yw x1 ≤ yw v3 then (
      some ((-1), M)
    ) else
    if yw 256 ≤ yw v3 then (
      some ((-1), M)
    ) else
    (gR O M v0 5 1).bind fun x2 =>
    (aJ O M x2 v3).bind fun x3 =>
    if yw x3 = yw v1 then (
      (gR O M v0 5 2).bind fun x4 =>
      (aJ O M x4 v3).bind fun x5 =>
      if yw x5 = yw v2 then (
        some (v3, M)
      ) else
      f_Meetings_placeOf_2 O f n v0 v1 v2 (v3 + 1) M
    ) else
    f_Meetings_placeOf_2 O f n v0 v1 v2 (v3 + 1) M
set_option maxRecDepth 20000 in
theorem k_f_Meetings_placeOf_2 (O : Nat → Option va_E) (f d : Nat) : ∀ (n : Nat) (v0 : Nat) (v1 : Int) (v2 : Int) (v3 : Int) (M : xM), xZ oJ O (d + 0) 196 2 [(0, .ref v0), (1, .int (yw v1)), (2, .int (yw v2)), (3, .int (yw v3))] [] M (f_Meetings_placeOf_2 O f n v0 v1 v2 v3 M) := by
  intro n
  induction n with
  | zero =>
    intro v0 v1 v2 v3 M
    exact xZ.no
  | succ n ih =>
    intro v0 v1 v2 v3 M
    unfold f_Meetings_placeOf_2
    refine xZ.adv (me := xm196) hP_196 2 (pc' := 4) (lv' := [(0, .ref v0), (1, .int (yw v1)), (2, .int (yw v2)), (3, .int (yw v3))]) (st' := [.ref v0, .int (yw v3)]) rfl ?_
    refine xZ.k_gJ (me := xm196) hP_196 rfl (fun x1 => ?_)
    refine xZ.jc_ge (me := xm196) hP_196 rfl (fun h1 => ?_) (fun h1 => ?_)
    · skip
      refine xZ.adv (me := xm196) hP_196 1 (pc' := 46) (lv' := [(0, .ref v0), (1, .int (yw v1)), (2, .int (yw v2)), (3, .int (yw v3))]) (st' := [.int (-1 : Int32)]) rfl ?_
      refine xZ.eqs (lv2 := [(0, .ref v0), (1, .int (yw v1)), (2, .int (yw v2)), (3, .int (yw v3))]) (st2 := [.int (yw (-1))]) rfl (by simp only [yl_lit, yL_lit, yw_add, yw_sub, yw_mul, yw_neg, yl_add, yl_sub, yl_mul, cj_and, cj_or, cj_xor, cj_shl, cj_shr, cj_ushr, cj_div, cj_i2c, cj_i2b, cj_dc, ck_and, ck_or, ck_xor, ck_shl, ck_shr, ck_ushr, ck_i2l, ck_l2i, ck_cmp]) ?_
      exact xZ.jreti (me := xm196) hP_196 rfl rfl
    · skip
      refine xZ.adv (me := xm196) hP_196 2 (pc' := 14) (lv' := [(0, .ref v0), (1, .int (yw v1)), (2, .int (yw v2)), (3, .int (yw v3))]) (st' := [.int (256 : Int32), .int (yw v3)]) rfl ?_
      refine xZ.eqs (lv2 := [(0, .ref v0), (1, .int (yw v1)), (2, .int (yw v2)), (3, .int (yw v3))]) (st2 := [.int (yw 256), .int (yw v3)]) rfl (by simp only [yl_lit, yL_lit, yw_add, yw_sub, yw_mul, yw_neg, yl_add, yl_sub, yl_mul, cj_and, cj_or, cj_xor, cj_shl, cj_shr, cj_ushr, cj_div, cj_i2c, cj_i2b, cj_dc, ck_and, ck_or, ck_xor, ck_shl, ck_shr, ck_ushr, ck_i2l, ck_l2i, ck_cmp]) ?_
      refine xZ.jc_ge (me := xm196) hP_196 rfl (fun h2 => ?_) (fun h2 => ?_)
      · skip
        refine xZ.adv (me := xm196) hP_196 1 (pc' := 46) (lv' := [(0, .ref v0), (1, .int (yw v1)), (2, .int (yw v2)), (3, .int (yw v3))]) (st' := [.int (-1 : Int32)]) rfl ?_
        refine xZ.eqs (lv2 := [(0, .ref v0), (1, .int (yw v1)), (2, .int (yw v2)), (3, .int (yw v3))]) (st2 := [.int (yw (-1))]) rfl (by simp only [yl_lit, yL_lit, yw_add, yw_sub, yw_mul, yw_neg, yl_add, yl_sub, yl_mul, cj_and, cj_or, cj_xor, cj_shl, cj_shr, cj_ushr, cj_div, cj_i2c, cj_i2b, cj_dc, ck_and, ck_or, ck_xor, ck_shl, ck_shr, ck_ushr, ck_i2l, ck_l2i, ck_cmp]) ?_
        exact xZ.jreti (me := xm196) hP_196 rfl rfl
      · skip
        refine xZ.adv (me := xm196) hP_196 1 (pc' := 18) (lv' := [(0, .ref v0), (1, .int (yw v1)), (2, .int (yw v2)), (3, .int (yw v3))]) (st' := [.ref v0]) rfl ?_
        refine xZ.k_gR (me := xm196) hP_196 rfl (fun x2 => ?_)
        refine xZ.adv (me := xm196) hP_196 1 (pc' := 22) (lv' := [(0, .ref v0), (1, .int (yw v1)), (2, .int (yw v2)), (3, .int (yw v3))]) (st' := [.int (yw v3), .ref x2]) rfl ?_
        refine xZ.k_aJ (me := xm196) hP_196 rfl (fun x3 => ?_)
        refine xZ.adv (me := xm196) hP_196 1 (pc' := 24) (lv' := [(0, .ref v0), (1, .int (yw v1)), (2, .int (yw v2)), (3, .int (yw v3))]) (st' := [.int (yw v1), .int (yw x3)]) rfl ?_
        refine xZ.jc_ne (me := xm196) hP_196 rfl (fun h3 => ?_) (fun h3 => ?_)
        · skip
          refine xZ.adv (me := xm196) hP_196 1 (pc' := 28) (lv' := [(0, .ref v0), (1, .int (yw v1)), (2, .int (yw v2)), (3, .int (yw v3))]) (st' := [.ref v0]) rfl ?_
          refine xZ.k_gR (me := xm196) hP_196 rfl (fun x4 => ?_)
          refine xZ.adv (me := xm196) hP_196 1 (pc' := 32) (lv' := [(0, .ref v0), (1, .int (yw v1)), (2, .int (yw v2)), (3, .int (yw v3))]) (st' := [.int (yw v3), .ref x4]) rfl ?_
          refine xZ.k_aJ (me := xm196) hP_196 rfl (fun x5 => ?_)
          refine xZ.adv (me := xm196) hP_196 1 (pc' := 34) (lv' := [(0, .ref v0), (1, .int (yw v1)), (2, .int (yw v2)), (3, .int (yw v3))]) (st' := [.int (yw v2), .int (yw x5)]) rfl ?_
          refine xZ.jc_ne (me := xm196) hP_196 rfl (fun h4 => ?_) (fun h4 => ?_)
          · skip
            refine xZ.adv (me := xm196) hP_196 1 (pc' := 38) (lv' := [(0, .ref v0), (1, .int (yw v1)), (2, .int (yw v2)), (3, .int (yw v3))]) (st' := [.int (yw v3)]) rfl ?_
            exact xZ.jreti (me := xm196) hP_196 rfl rfl
          · skip
            refine xZ.adv (me := xm196) hP_196 2 (pc' := 2) (lv' := [(3, .int ((yw v3) + (1 : Int32))), (0, .ref v0), (1, .int (yw v1)), (2, .int (yw v2))]) (st' := []) rfl ?_
            refine xZ.eqs (lv2 := [(3, .int (yw (v3 + 1))), (0, .ref v0), (1, .int (yw v1)), (2, .int (yw v2))]) (st2 := []) (by simp only [yl_lit, yL_lit, yw_add, yw_sub, yw_mul, yw_neg, yl_add, yl_sub, yl_mul, cj_and, cj_or, cj_xor, cj_shl, cj_shr, cj_ushr, cj_div, cj_i2c, cj_i2b, cj_dc, ck_and, ck_or, ck_xor, ck_shl, ck_shr, ck_ushr, ck_i2l, ck_l2i, ck_cmp]) rfl ?_
            exact xZ.sub (xsc (.tail _ (.head _)) (xsc (.tail _ (.tail _ (.head _))) (xsc (.tail _ (.tail _ (.tail _ (.head _)))) (xsc (.head _) xsn)))) (show ([3, 0, 1, 2] : List Nat).Nodup from by decide) (ih v0 v1 v2 (v3 + 1) M)
        · skip
          refine xZ.adv (me := xm196) hP_196 2 (pc' := 2) (lv' := [(3, .int ((yw v3) + (1 : Int32))), (0, .ref v0), (1, .int (yw v1)), (2, .int (yw v2))]) (st' := []) rfl ?_
          refine xZ.eqs (lv2 := [(3, .int (yw (v3 + 1))), (0, .ref v0), (1, .int (yw v1)), (2, .int (yw v2))]) (st2 := []) (by simp only [yl_lit, yL_lit, yw_add, yw_sub, yw_mul, yw_neg, yl_add, yl_sub, yl_mul, cj_and, cj_or, cj_xor, cj_shl, cj_shr, cj_ushr, cj_div, cj_i2c, cj_i2b, cj_dc, ck_and, ck_or, ck_xor, ck_shl, ck_shr, ck_ushr, ck_i2l, ck_l2i, ck_cmp]) rfl ?_
          exact xZ.sub (xsc (.tail _ (.head _)) (xsc (.tail _ (.tail _ (.head _))) (xsc (.tail _ (.tail _ (.tail _ (.head _)))) (xsc (.head _) xsn)))) (show ([3, 0, 1, 2] : List Nat).Nodup from by decide) (ih v0 v1 v2 (v3 + 1) M)
def f_Meetings_placeOf (O : Nat → Option va_E) (f : Nat) (v0 : Nat) (v1 : Int) (v2 : Int) (M : xM) : Option (Int × xM) :=
  f_Meetings_placeOf_2 O f f v0 v1 v2 0 M
set_option maxRecDepth 20000 in
theorem k_f_Meetings_placeOf (O : Nat → Option va_E) (f d : Nat) (v0 : Nat) (v1 : Int) (v2 : Int) (M : xM) : xZ oJ O (d + 0) 196 0 [(0, .ref v0), (1, .int (yw v1)), (2, .int (yw v2))] [] M (f_Meetings_placeOf O f v0 v1 v2 M) := by
  unfold f_Meetings_placeOf
  refine xZ.adv (me := xm196) hP_196 2 (pc' := 2) (lv' := [(3, .int (0 : Int32)), (0, .ref v0), (1, .int (yw v1)), (2, .int (yw v2))]) (st' := []) rfl ?_
  refine xZ.eqs (lv2 := [(3, .int (yw 0)), (0, .ref v0), (1, .int (yw v1)), (2, .int (yw v2))]) (st2 := []) (by simp only [yl_lit, yL_lit, yw_add, yw_sub, yw_mul, yw_neg, yl_add, yl_sub, yl_mul, cj_and, cj_or, cj_xor, cj_shl, cj_shr, cj_ushr, cj_div, cj_i2c, cj_i2b, cj_dc, ck_and, ck_or, ck_xor, ck_shl, ck_shr, ck_ushr, ck_i2l, ck_l2i, ck_cmp]) rfl ?_
  exact xZ.sub (xsc (.tail _ (.head _)) (xsc (.tail _ (.tail _ (.head _))) (xsc (.tail _ (.tail _ (.tail _ (.head _)))) (xsc (.head _) xsn)))) (show ([3, 0, 1, 2] : List Nat).Nodup from by decide) (k_f_Meetings_placeOf_2 O f d f v0 v1 v2 0 M)
def f_Meetings_roomAt (O : Nat → Option va_E) (f : Nat) (v0 : Nat) (v1 : Int) (M : xM) : Option (Int × xM) :=
  if yw v1 < yw 0 then (
    some ((-1), M)
  ) else
  (gR O M v0 5 3).bind fun x1 =>
  (aJN O M x1).bind fun x2 =>
  if yw x2 ≤ yw v1 then (
    some ((-1), M)
  ) else
  (gR O M v0 5 3).bind fun x3 =>
  (aJ O M x3 v1).bind fun x4 =>
  some (x4, M)
set_option maxRecDepth 20000 in
theorem k_f_Meetings_roomAt (O : Nat → Option va_E) (f d : Nat) (v0 : Nat) (v1 : Int) (M : xM) : xZ oJ O (d + 0) 197 0 [(0, .ref v0), (1, .int (yw v1))] [] M (f_Meetings_roomAt O f v0 v1 M) := by
  unfold f_Meetings_roomAt
  refine xZ.adv (me := xm197) hP_197 1 (pc' := 1) (lv' := [(0, .ref v0), (1, .int (yw v1))]) (st' := [.int (yw v1)]) rfl ?_
  refine xZ.jf_lt (me := xm197) hP_197 rfl (fun h1 => ?_) (fun h1 => ?_)
  · skip
    refine xZ.adv (me := xm197) hP_197 1 (pc' := 23) (lv' := [(0, .ref v0), (1, .int (yw v1))]) (st' := [.int (-1 : Int32)]) rfl ?_
    refine xZ.eqs (lv2 := [(0, .ref v0), (1, .int (yw v1))]) (st2 := [.int (yw (-1))]) rfl (by simp only [yl_lit, yL_lit, yw_add, yw_sub, yw_mul, yw_neg, yl_add, yl_sub, yl_mul, cj_and, cj_or, cj_xor, cj_shl, cj_shr, cj_ushr, cj_div, cj_i2c, cj_i2b, cj_dc, ck_and, ck_or, ck_xor, ck_shl, ck_shr, ck_ushr, ck_i2l, ck_l2i, ck_cmp]) ?_
    exact xZ.jreti (me := xm197) hP_197 rfl rfl
  · skip
    refine xZ.adv (me := xm197) hP_197 2 (pc' := 6) (lv' := [(0, .ref v0), (1, .int (yw v1))]) (st' := [.ref v0, .int (yw v1)]) rfl ?_
    refine xZ.k_gR (me := xm197) hP_197 rfl (fun x1 => ?_)
    refine xZ.k_aJN (me := xm197) hP_197 rfl (fun x2 => ?_)
    refine xZ.jc_ge (me := xm197) hP_197 rfl (fun h2 => ?_) (fun h2 => ?_)
    · skip
      refine xZ.adv (me := xm197) hP_197 1 (pc' := 23) (lv' := [(0, .ref v0), (1, .int (yw v1))]) (st' := [.int (-1 : Int32)]) rfl ?_
      refine xZ.eqs (lv2 := [(0, .ref v0), (1, .int (yw v1))]) (st2 := [.int (yw (-1))]) rfl (by simp only [yl_lit, yL_lit, yw_add, yw_sub, yw_mul, yw_neg, yl_add, yl_sub, yl_mul, cj_and, cj_or, cj_xor, cj_shl, cj_shr, cj_ushr, cj_div, cj_i2c, cj_i2b, cj_dc, ck_and, ck_or, ck_xor, ck_shl, ck_shr, ck_ushr, ck_i2l, ck_l2i, ck_cmp]) ?_
      exact xZ.jreti (me := xm197) hP_197 rfl rfl
    · skip
      refine xZ.adv (me := xm197) hP_197 1 (pc' := 14) (lv' := [(0, .ref v0), (1, .int (yw v1))]) (st' := [.ref v0]) rfl ?_
      refine xZ.k_gR (me := xm197) hP_197 rfl (fun x3 => ?_)
      refine xZ.adv (me := xm197) hP_197 1 (pc' := 18) (lv' := [(0, .ref v0), (1, .int (yw v1))]) (st' := [.int (yw v1), .ref x3]) rfl ?_
      refine xZ.k_aJ (me := xm197) hP_197 rfl (fun x4 => ?_)
      refine xZ.adv (me := xm197) hP_197 1 (pc' := 23) (lv' := [(0, .ref v0), (1, .int (yw v1))]) (st' := [.int (yw x4)]) rfl ?_
      exact xZ.jreti (me := xm197) hP_197 rfl rfl
def f_Calendarhall_roomOf (O : Nat → Option va_E) (f : Nat) (v0 : Nat) (v1 : Int) (v2 : Int) (M : xM) : Option (Int × xM) :=
  (gR O M v0 12 5).bind fun x1 =>
  (isO O M x1 5).bind fun _ =>
  xcl (f_Meetings_placeOf O f x1 v1 v2 M) fun x2 M1 =>
  if yw x2 = yw (-1) then (
    none
  ) else
  (gR O M1 v0 12 5).bind fun x3 =>
  (isO O M1 x3 5).bind fun _ =>
  xcl (f_Meetings_roomAt O f x3 x2 M1) fun x4 M2 =>
  some (x4, M2)
set_option maxRecDepth 20000 in
theorem k_f_Calendarhall_roomOf (O : Nat → Option va_E) (f d : Nat) (v0 : Nat) (v1 : Int) (v2 : Int) (M : xM) : xZ oJ O (d + 1) 195 0 [(0, .ref v0), (1, .int (yw v1)), (2, .int (yw v2))] [] M (f_Calendarhall_roomOf O f v0 v1 v2 M) := by
  unfold f_Calendarhall_roomOf
  refine xZ.adv (me := xm195) hP_195 1 (pc' := 1) (lv' := [(0, .ref v0), (1, .int (yw v1)), (2, .int (yw v2))]) (st' := [.ref v0]) rfl ?_
  refine xZ.k_gR (me := xm195) hP_195 rfl (fun x1 => ?_)
  refine xZ.adv (me := xm195) hP_195 2 (pc' := 6) (lv' := [(0, .ref v0), (1, .int (yw v1)), (2, .int (yw v2))]) (st' := [.int (yw v2), .int (yw v1), .ref x1]) rfl ?_
  refine xZ.callv (κ := oJ) (av := [.int (yw v1), .int (yw v2)]) (rest := []) (st' := fun x2 => [.int (yw x2)]) (k0 := x1) (me := xm195) hP_195 rfl (Or.inl rfl) ⟨rfl, by decide⟩ rfl rfl (Nat.le_of_ble_eq_true rfl) (by decide) hP_196 (Nat.le_of_ble_eq_true rfl) (fun _ => rfl) (k_f_Meetings_placeOf O f (d + 0) x1 v1 v2 M) (fun x2 M1 => ?_)
  refine xZ.adv (me := xm195) hP_195 3 (pc' := 12) (lv' := [(3, .int (yw x2)), (0, .ref v0), (1, .int (yw v1)), (2, .int (yw v2))]) (st' := [.int (-1 : Int32), .int (yw x2)]) rfl ?_
  refine xZ.eqs (lv2 := [(3, .int (yw x2)), (0, .ref v0), (1, .int (yw v1)), (2, .int (yw v2))]) (st2 := [.int (yw (-1)), .int (yw x2)]) rfl (by simp only [yl_lit, yL_lit, yw_add, yw_sub, yw_mul, yw_neg, yl_add, yl_sub, yl_mul, cj_and, cj_or, cj_xor, cj_shl, cj_shr, cj_ushr, cj_div, cj_i2c, cj_i2b, cj_dc, ck_and, ck_or, ck_xor, ck_shl, ck_shr, ck_ushr, ck_i2l, ck_l2i, ck_cmp]) ?_
  refine xZ.jc_ne (me := xm195) hP_195 rfl (fun h1 => ?_) (fun h1 => ?_)
  · skip
    exact xZ.no
  · skip
    refine xZ.adv (me := xm195) hP_195 1 (pc' := 24) (lv' := [(3, .int (yw x2)), (0, .ref v0), (1, .int (yw v1)), (2, .int (yw v2))]) (st' := [.ref v0]) rfl ?_
    refine xZ.k_gR (me := xm195) hP_195 rfl (fun x3 => ?_)
    refine xZ.adv (me := xm195) hP_195 1 (pc' := 28) (lv' := [(3, .int (yw x2)), (0, .ref v0), (1, .int (yw v1)), (2, .int (yw v2))]) (st' := [.int (yw x2), .ref x3]) rfl ?_
    refine xZ.callv (κ := oJ) (av := [.int (yw x2)]) (rest := []) (st' := fun x4 => [.int (yw x4)]) (k0 := x3) (me := xm195) hP_195 rfl (Or.inl rfl) ⟨rfl, by decide⟩ rfl rfl (Nat.le_of_ble_eq_true rfl) (by decide) hP_197 (Nat.le_of_ble_eq_true rfl) (fun _ => rfl) (k_f_Meetings_roomAt O f (d + 0) x3 x2 M1) (fun x4 M2 => ?_)
    exact xZ.jreti (me := xm195) hP_195 rfl rfl
def f_Hall_buildingOf (O : Nat → Option va_E) (f : Nat) (v0 : Nat) (v1 : Int) (M : xM) : Option (Int × xM) :=
  if yw v1 < yw 0 then (
    some (0, M)
  ) else
  (gR O M v0 4 2).bind fun x1 =>
  (aJN O M x1).bind fun x2 =>
  if yw x2 ≤ yw v1 then (
    some (0, M)
  ) else
  (gR O M v0 4 2).bind fun x3 =>
  (aJ O M x3 v1).bind fun x4 =>
  some (x4, M)
set_option maxRecDepth 20000 in
theorem k_f_Hall_buildingOf (O : Nat → Option va_E) (f d : Nat) (v0 : Nat) (v1 : Int) (M : xM) : xZ oJ O (d + 0) 201 0 [(0, .ref v0), (1, .int (yw v1))] [] M (f_Hall_buildingOf O f v0 v1 M) := by
  unfold f_Hall_buildingOf
  refine xZ.adv (me := xm201) hP_201 1 (pc' := 1) (lv' := [(0, .ref v0), (1, .int (yw v1))]) (st' := [.int (yw v1)]) rfl ?_
  refine xZ.jf_lt (me := xm201) hP_201 rfl (fun h1 => ?_) (fun h1 => ?_)
  · skip
    refine xZ.adv (me := xm201) hP_201 1 (pc' := 23) (lv' := [(0, .ref v0), (1, .int (yw v1))]) (st' := [.int (0 : Int32)]) rfl ?_
    refine xZ.eqs (lv2 := [(0, .ref v0), (1, .int (yw v1))]) (st2 := [.int (yw 0)]) rfl (by simp only [yl_lit, yL_lit, yw_add, yw_sub, yw_mul, yw_neg, yl_add, yl_sub, yl_mul, cj_and, cj_or, cj_xor, cj_shl, cj_shr, cj_ushr, cj_div, cj_i2c, cj_i2b, cj_dc, ck_and, ck_or, ck_xor, ck_shl, ck_shr, ck_ushr, ck_i2l, ck_l2i, ck_cmp]) ?_
    exact xZ.jreti (me := xm201) hP_201 rfl rfl
  · skip
    refine xZ.adv (me := xm201) hP_201 2 (pc' := 6) (lv' := [(0, .ref v0), (1, .int (yw v1))]) (st' := [.ref v0, .int (yw v1)]) rfl ?_
    refine xZ.k_gR (me := xm201) hP_201 rfl (fun x1 => ?_)
    refine xZ.k_aJN (me := xm201) hP_201 rfl (fun x2 => ?_)
    refine xZ.jc_ge (me := xm201) hP_201 rfl (fun h2 => ?_) (fun h2 => ?_)
    · skip
      refine xZ.adv (me := xm201) hP_201 1 (pc' := 23) (lv' := [(0, .ref v0), (1, .int (yw v1))]) (st' := [.int (0 : Int32)]) rfl ?_
      refine xZ.eqs (lv2 := [(0, .ref v0), (1, .int (yw v1))]) (st2 := [.int (yw 0)]) rfl (by simp only [yl_lit, yL_lit, yw_add, yw_sub, yw_mul, yw_neg, yl_add, yl_sub, yl_mul, cj_and, cj_or, cj_xor, cj_shl, cj_shr, cj_ushr, cj_div, cj_i2c, cj_i2b, cj_dc, ck_and, ck_or, ck_xor, ck_shl, ck_shr, ck_ushr, ck_i2l, ck_l2i, ck_cmp]) ?_
      exact xZ.jreti (me := xm201) hP_201 rfl rfl
    · skip
      refine xZ.adv (me := xm201) hP_201 1 (pc' := 14) (lv' := [(0, .ref v0), (1, .int (yw v1))]) (st' := [.ref v0]) rfl ?_
      refine xZ.k_gR (me := xm201) hP_201 rfl (fun x3 => ?_)
      refine xZ.adv (me := xm201) hP_201 1 (pc' := 18) (lv' := [(0, .ref v0), (1, .int (yw v1))]) (st' := [.int (yw v1), .ref x3]) rfl ?_
      refine xZ.k_aJ (me := xm201) hP_201 rfl (fun x4 => ?_)
      refine xZ.adv (me := xm201) hP_201 1 (pc' := 23) (lv' := [(0, .ref v0), (1, .int (yw v1))]) (st' := [.int (yw x4)]) rfl ?_
      exact xZ.jreti (me := xm201) hP_201 rfl rfl
def f_Meetings_way (O : Nat → Option va_E) (f : Nat) (v0 : Nat) (v1 : Int) (v2 : Int) (M : xM) : Option (Int × xM) :=
  if yw v1 = yw (-1) then (
    some (0, M)
  ) else
  if yw v2 = yw (-1) then (
    some (0, M)
  ) else
  (isO O M v0 4).bind fun _ =>
  xcl (f_Hall_buildingOf O f v0 v1 M) fun x1 M1 =>
  (isO O M1 v0 4).bind fun _ =>
  xcl (f_Hall_buildingOf O f v0 v2 M1) fun x2 M2 =>
  xcl (f_Math_abs O f (x1 - x2) M2) fun x3 M3 =>
  some ((5 * x3), M3)
set_option maxRecDepth 20000 in
theorem k_f_Meetings_way (O : Nat → Option va_E) (f d : Nat) (v0 : Nat) (v1 : Int) (v2 : Int) (M : xM) : xZ oJ O (d + 1) 200 0 [(0, .ref v0), (1, .int (yw v1)), (2, .int (yw v2))] [] M (f_Meetings_way O f v0 v1 v2 M) := by
  unfold f_Meetings_way
  refine xZ.adv (me := xm200) hP_200 2 (pc' := 2) (lv' := [(0, .ref v0), (1, .int (yw v1)), (2, .int (yw v2))]) (st' := [.int (-1 : Int32), .int (yw v1)]) rfl ?_
  refine xZ.eqs (lv2 := [(0, .ref v0), (1, .int (yw v1)), (2, .int (yw v2))]) (st2 := [.int (yw (-1)), .int (yw v1)]) rfl (by simp only [yl_lit, yL_lit, yw_add, yw_sub, yw_mul, yw_neg, yl_add, yl_sub, yl_mul, cj_and, cj_or, cj_xor, cj_shl, cj_shr, cj_ushr, cj_div, cj_i2c, cj_i2b, cj_dc, ck_and, ck_or, ck_xor, ck_shl, ck_shr, ck_ushr, ck_i2l, ck_l2i, ck_cmp]) ?_
  refine xZ.jc_eq (me := xm200) hP_200 rfl (fun h1 => ?_) (fun h1 => ?_)
  · skip
    refine xZ.adv (me := xm200) hP_200 1 (pc' := 11) (lv' := [(0, .ref v0), (1, .int (yw v1)), (2, .int (yw v2))]) (st' := [.int (0 : Int32)]) rfl ?_
    refine xZ.eqs (lv2 := [(0, .ref v0), (1, .int (yw v1)), (2, .int (yw v2))]) (st2 := [.int (yw 0)]) rfl (by simp only [yl_lit, yL_lit, yw_add, yw_sub, yw_mul, yw_neg, yl_add, yl_sub, yl_mul, cj_and, cj_or, cj_xor, cj_shl, cj_shr, cj_ushr, cj_div, cj_i2c, cj_i2b, cj_dc, ck_and, ck_or, ck_xor, ck_shl, ck_shr, ck_ushr, ck_i2l, ck_l2i, ck_cmp]) ?_
    exact xZ.jreti (me := xm200) hP_200 rfl rfl
  · skip
    refine xZ.adv (me := xm200) hP_200 2 (pc' := 7) (lv' := [(0, .ref v0), (1, .int (yw v1)), (2, .int (yw v2))]) (st' := [.int (-1 : Int32), .int (yw v2)]) rfl ?_
    refine xZ.eqs (lv2 := [(0, .ref v0), (1, .int (yw v1)), (2, .int (yw v2))]) (st2 := [.int (yw (-1)), .int (yw v2)]) rfl (by simp only [yl_lit, yL_lit, yw_add, yw_sub, yw_mul, yw_neg, yl_add, yl_sub, yl_mul, cj_and, cj_or, cj_xor, cj_shl, cj_shr, cj_ushr, cj_div, cj_i2c, cj_i2b, cj_dc, ck_and, ck_or, ck_xor, ck_shl, ck_shr, ck_ushr, ck_i2l, ck_l2i, ck_cmp]) ?_
    refine xZ.jc_ne (me := xm200) hP_200 rfl (fun h2 => ?_) (fun h2 => ?_)
    · skip
      refine xZ.adv (me := xm200) hP_200 1 (pc' := 11) (lv' := [(0, .ref v0), (1, .int (yw v1)), (2, .int (yw v2))]) (st' := [.int (0 : Int32)]) rfl ?_
      refine xZ.eqs (lv2 := [(0, .ref v0), (1, .int (yw v1)), (2, .int (yw v2))]) (st2 := [.int (yw 0)]) rfl (by simp only [yl_lit, yL_lit, yw_add, yw_sub, yw_mul, yw_neg, yl_add, yl_sub, yl_mul, cj_and, cj_or, cj_xor, cj_shl, cj_shr, cj_ushr, cj_div, cj_i2c, cj_i2b, cj_dc, ck_and, ck_or, ck_xor, ck_shl, ck_shr, ck_ushr, ck_i2l, ck_l2i, ck_cmp]) ?_
      exact xZ.jreti (me := xm200) hP_200 rfl rfl
    · skip
      refine xZ.adv (me := xm200) hP_200 3 (pc' := 15) (lv' := [(0, .ref v0), (1, .int (yw v1)), (2, .int (yw v2))]) (st' := [.int (yw v1), .ref v0, .int (5 : Int32)]) rfl ?_
      refine xZ.eqs (lv2 := [(0, .ref v0), (1, .int (yw v1)), (2, .int (yw v2))]) (st2 := [.int (yw v1), .ref v0, .int (yw 5)]) rfl (by simp only [yl_lit, yL_lit, yw_add, yw_sub, yw_mul, yw_neg, yl_add, yl_sub, yl_mul, cj_and, cj_or, cj_xor, cj_shl, cj_shr, cj_ushr, cj_div, cj_i2c, cj_i2b, cj_dc, ck_and, ck_or, ck_xor, ck_shl, ck_shr, ck_ushr, ck_i2l, ck_l2i, ck_cmp]) ?_
      refine xZ.callv (κ := oJ) (av := [.int (yw v1)]) (rest := [.int (yw 5)]) (st' := fun x1 => [.int (yw x1), .int (yw 5)]) (k0 := v0) (me := xm200) hP_200 rfl (Or.inl rfl) ⟨rfl, by decide⟩ rfl rfl (Nat.le_of_ble_eq_true rfl) (by decide) hP_201 (Nat.le_of_ble_eq_true rfl) (fun _ => rfl) (k_f_Hall_buildingOf O f (d + 0) v0 v1 M) (fun x1 M1 => ?_)
      refine xZ.adv (me := xm200) hP_200 2 (pc' := 20) (lv' := [(0, .ref v0), (1, .int (yw v1)), (2, .int (yw v2))]) (st' := [.int (yw v2), .ref v0, .int (yw x1), .int (yw 5)]) rfl ?_
      refine xZ.callv (κ := oJ) (av := [.int (yw v2)]) (rest := [.int (yw x1), .int (yw 5)]) (st' := fun x2 => [.int (yw x2), .int (yw x1), .int (yw 5)]) (k0 := v0) (me := xm200) hP_200 rfl (Or.inl rfl) ⟨rfl, by decide⟩ rfl rfl (Nat.le_of_ble_eq_true rfl) (by decide) hP_201 (Nat.le_of_ble_eq_true rfl) (fun _ => rfl) (k_f_Hall_buildingOf O f (d + 0) v0 v2 M1) (fun x2 M2 => ?_)
      refine xZ.adv (me := xm200) hP_200 1 (pc' := 24) (lv' := [(0, .ref v0), (1, .int (yw v1)), (2, .int (yw v2))]) (st' := [.int ((yw x1) - (yw x2)), .int (yw 5)]) rfl ?_
      refine xZ.eqs (lv2 := [(0, .ref v0), (1, .int (yw v1)), (2, .int (yw v2))]) (st2 := [.int (yw (x1 - x2)), .int (yw 5)]) rfl (by simp only [yl_lit, yL_lit, yw_add, yw_sub, yw_mul, yw_neg, yl_add, yl_sub, yl_mul, cj_and, cj_or, cj_xor, cj_shl, cj_shr, cj_ushr, cj_div, cj_i2c, cj_i2b, cj_dc, ck_and, ck_or, ck_xor, ck_shl, ck_shr, ck_ushr, ck_i2l, ck_l2i, ck_cmp]) ?_
      refine xZ.calls (κ := oJ) (av := [.int (yw (x1 - x2))]) (rest := [.int (yw 5)]) (st' := fun x3 => [.int (yw x3), .int (yw 5)]) (me := xm200) hP_200 rfl rfl rfl (Nat.le_of_ble_eq_true rfl) (by decide) hP_249 (Nat.le_of_ble_eq_true rfl) (fun _ => rfl) (k_f_Math_abs O f (d + 0) (x1 - x2) M2) (fun x3 M3 => ?_)
      refine xZ.adv (me := xm200) hP_200 1 (pc' := 28) (lv' := [(0, .ref v0), (1, .int (yw v1)), (2, .int (yw v2))]) (st' := [.int ((yw 5) * (yw x3))]) rfl ?_
      refine xZ.eqs (lv2 := [(0, .ref v0), (1, .int (yw v1)), (2, .int (yw v2))]) (st2 := [.int (yw (5 * x3))]) rfl (by simp only [yl_lit, yL_lit, yw_add, yw_sub, yw_mul, yw_neg, yl_add, yl_sub, yl_mul, cj_and, cj_or, cj_xor, cj_shl, cj_shr, cj_ushr, cj_div, cj_i2c, cj_i2b, cj_dc, ck_and, ck_or, ck_xor, ck_shl, ck_shr, ck_ushr, ck_i2l, ck_l2i, ck_cmp]) ?_
      exact xZ.jreti (me := xm200) hP_200 rfl rfl
def f_Meetings_keep (O : Nat → Option va_E) (f : Nat) (v0 : Nat) (v1 : Int) (M : xM) : Option (Unit × xM) :=
  (gJ O M v0 5 5).bind fun x1 =>
  if yw x1 < yw 0 then (
    some ((), M)
  ) else
  (gJ O M v0 5 5).bind fun x2 =>
  (gR O M v0 5 8).bind fun x3 =>
  (aJN O M x3).bind fun x4 =>
  if yw x2 < yw x4 then (
    (gR O M v0 5 8).bind fun x5 =>
    (gJ O M v0 5 5).bind fun x6 =>
    (wJ M x5 x6 v1).bind fun M1 =>
    (gJ O M1 v0 5 5).bind fun x7 =>
    (pJ M1 v0 5 5 (x7 + 1)).bind fun M2 =>
    some ((), M2)
  ) else
  some ((), M)
set_option maxRecDepth 20000 in
theorem k_f_Meetings_keep (O : Nat → Option va_E) (f d : Nat) (v0 : Nat) (v1 : Int) (M : xM) : xZ oU O (d + 0) 202 0 [(0, .ref v0), (1, .int (yw v1))] [] M (f_Meetings_keep O f v0 v1 M) := by
  unfold f_Meetings_keep
  refine xZ.adv (me := xm202) hP_202 1 (pc' := 1) (lv' := [(0, .ref v0), (1, .int (yw v1))]) (st' := [.ref v0]) rfl ?_
  refine xZ.k_gJ (me := xm202) hP_202 rfl (fun x1 => ?_)
  refine xZ.jf_lt (me := xm202) hP_202 rfl (fun h1 => ?_) (fun h1 => ?_)
  · skip
    exact xZ.retu (me := xm202) hP_202 rfl rfl
  · skip
    refine xZ.adv (me := xm202) hP_202 1 (pc' := 8) (lv' := [(0, .ref v0), (1, .int (yw v1))]) (st' := [.ref v0]) rfl ?_
    refine xZ.k_gJ (me := xm202) hP_202 rfl (fun x2 => ?_)
    refine xZ.adv (me := xm202) hP_202 1 (pc' := 12) (lv' := [(0, .ref v0), (1, .int (yw v1))]) (st' := [.ref v0, .int (yw x2)]) rfl ?_
    refine xZ.k_gR (me := xm202) hP_202 rfl (fun x3 => ?_)
    refine xZ.k_aJN (me := xm202) hP_202 rfl (fun x4 => ?_)
    refine xZ.jc_lt (me := xm202) hP_202 rfl (fun h2 => ?_) (fun h2 => ?_)
    · skip
      refine xZ.adv (me := xm202) hP_202 1 (pc' := 21) (lv' := [(0, .ref v0), (1, .int (yw v1))]) (st' := [.ref v0]) rfl ?_
      refine xZ.k_gR (me := xm202) hP_202 rfl (fun x5 => ?_)
      refine xZ.adv (me := xm202) hP_202 1 (pc' := 25) (lv' := [(0, .ref v0), (1, .int (yw v1))]) (st' := [.ref v0, .ref x5]) rfl ?_
      refine xZ.k_gJ (me := xm202) hP_202 rfl (fun x6 => ?_)
      refine xZ.adv (me := xm202) hP_202 1 (pc' := 29) (lv' := [(0, .ref v0), (1, .int (yw v1))]) (st' := [.int (yw v1), .int (yw x6), .ref x5]) rfl ?_
      refine xZ.k_wJ (me := xm202) hP_202 rfl (fun M1 => ?_)
      refine xZ.adv (me := xm202) hP_202 2 (pc' := 32) (lv' := [(0, .ref v0), (1, .int (yw v1))]) (st' := [.ref v0, .ref v0]) rfl ?_
      refine xZ.k_gJ (me := xm202) hP_202 rfl (fun x7 => ?_)
      refine xZ.adv (me := xm202) hP_202 2 (pc' := 37) (lv' := [(0, .ref v0), (1, .int (yw v1))]) (st' := [.int ((yw x7) + (1 : Int32)), .ref v0]) rfl ?_
      refine xZ.eqs (lv2 := [(0, .ref v0), (1, .int (yw v1))]) (st2 := [.int (yw (x7 + 1)), .ref v0]) rfl (by simp only [yl_lit, yL_lit, yw_add, yw_sub, yw_mul, yw_neg, yl_add, yl_sub, yl_mul, cj_and, cj_or, cj_xor, cj_shl, cj_shr, cj_ushr, cj_div, cj_i2c, cj_i2b, cj_dc, ck_and, ck_or, ck_xor, ck_shl, ck_shr, ck_ushr, ck_i2l, ck_l2i, ck_cmp]) ?_
      refine xZ.k_pJ (me := xm202) hP_202 rfl (fun M2 => ?_)
      exact xZ.retu (me := xm202) hP_202 rfl rfl
    · skip
      exact xZ.retu (me := xm202) hP_202 rfl rfl
def f_Meetings_findClashes_206 (O : Nat → Option va_E) (f : Nat) (v0 : Nat) (M : xM) : Option (Int × xM) :=
  (gJ O M v0 5 5).bind fun x1 =>
  some (x1, M)
set_option maxRecDepth 20000 in
theorem k_f_Meetings_findClashes_206 (O : Nat → Option va_E) (f d : Nat) (v0 : Nat) (M : xM) : xZ oJ O (d + 3) 199 206 [(0, .ref v0)] [] M (f_Meetings_findClashes_206 O f v0 M) := by
  unfold f_Meetings_findClashes_206
  refine xZ.adv (me := xm199) hP_199 1 (pc' := 207) (lv' := [(0, .ref v0)]) (st' := [.ref v0]) rfl ?_
  refine xZ.k_gJ (me := xm199) hP_199 rfl (fun x1 => ?_)
  exact xZ.jreti (me := xm199) hP_199 rfl rfl
def f_Meetings_findClashes_181 (O : Nat → Option va_E) (f : Nat) (K118 : Nat → Nat → Nat → Int → Int → Int → Int → xM → Option (Int × xM)) (v0 : Nat) (v1 : Nat) (v2 : Nat) (v3 : Int) (v4 : Int) (v5 : Int) (v6 : Int) (M : xM) : Option (Int × xM) :=
  (isO O M v0 5).bind fun _ =>
  xcl (f_Meetings_keep O f v0 ((v4 * 256) + v6) M) fun _ M1 =>
  K118 v0 v1 v2 v3 v4 v5 (v6 + 1) M1
set_option maxRecDepth 20000 in
theorem k_f_Meetings_findClashes_181 (O : Nat → Option va_E) (f d : Nat) (K118 : Nat → Nat → Nat → Int → Int → Int → Int → xM → Option (Int × xM)) (hK118 : ∀ (v0 : Nat) (v1 : Nat) (v2 : Nat) (v3 : Int) (v4 : Int) (v5 : Int) (v6 : Int) M, xZ oJ O (d + 3) 199 118 [(0, .ref v0), (1, .ref v1), (2, .ref v2), (3, .int (yw v3)), (4, .int (yw v4)), (5, .int (yw v5)), (6, .int (yw v6))] [] M (K118 v0 v1 v2 v3 v4 v5 v6 M)) (v0 : Nat) (v1 : Nat) (v2 : Nat) (v3 : Int) (v4 : Int) (v5 : Int) (v6 : Int) (M : xM) : xZ oJ O (d + 3) 199 181 [(0, .ref v0), (1, .ref v1), (2, .ref v2), (3, .int (yw v3)), (4, .int (yw v4)), (5, .int (yw v5)), (6, .int (yw v6))] [] M (f_Meetings_findClashes_181 O f K118 v0 v1 v2 v3 v4 v5 v6 M) := by
  unfold f_Meetings_findClashes_181
  refine xZ.adv (me := xm199) hP_199 6 (pc' := 191) (lv' := [(0, .ref v0), (1, .ref v1), (2, .ref v2), (3, .int (yw v3)), (4, .int (yw v4)), (5, .int (yw v5)), (6, .int (yw v6))]) (st' := [.int (((yw v4) * (256 : Int32)) + (yw v6)), .ref v0]) rfl ?_
  refine xZ.eqs (lv2 := [(0, .ref v0), (1, .ref v1), (2, .ref v2), (3, .int (yw v3)), (4, .int (yw v4)), (5, .int (yw v5)), (6, .int (yw v6))]) (st2 := [.int (yw ((v4 * 256) + v6)), .ref v0]) rfl (by simp only [yl_lit, yL_lit, yw_add, yw_sub, yw_mul, yw_neg, yl_add, yl_sub, yl_mul, cj_and, cj_or, cj_xor, cj_shl, cj_shr, cj_ushr, cj_div, cj_i2c, cj_i2b, cj_dc, ck_and, ck_or, ck_xor, ck_shl, ck_shr, ck_ushr, ck_i2l, ck_l2i, ck_cmp]) ?_
  refine xZ.callv (κ := oU) (av := [.int (yw ((v4 * 256) + v6))]) (rest := []) (st' := fun _ => []) (k0 := v0) (me := xm199) hP_199 rfl (Or.inl rfl) ⟨rfl, by decide⟩ rfl rfl (Nat.le_of_ble_eq_true rfl) (by decide) hP_202 (Nat.le_of_ble_eq_true rfl) (fun _ => rfl) (k_f_Meetings_keep O f (d + 2) v0 ((v4 * 256) + v6) M) (fun _ M1 => ?_)
  refine xZ.adv (me := xm199) hP_199 2 (pc' := 118) (lv' := [(6, .int ((yw v6) + (1 : Int32))), (0, .ref v0), (1, .ref v1), (2, .ref v2), (3, .int (yw v3)), (4, .int (yw v4)), (5, .int (yw v5))]) (st' := []) rfl ?_
  refine xZ.eqs (lv2 := [(6, .int (yw (v6 + 1))), (0, .ref v0), (1, .ref v1), (2, .ref v2), (3, .int (yw v3)), (4, .int (yw v4)), (5, .int (yw v5))]) (st2 := []) (by simp only [yl_lit, yL_lit, yw_add, yw_sub, yw_mul, yw_neg, yl_add, yl_sub, yl_mul, cj_and, cj_or, cj_xor, cj_shl, cj_shr, cj_ushr, cj_div, cj_i2c, cj_i2b, cj_dc, ck_and, ck_or, ck_xor, ck_shl, ck_shr, ck_ushr, ck_i2l, ck_l2i, ck_cmp]) rfl ?_
  exact xZ.sub (xsc (.tail _ (.head _)) (xsc (.tail _ (.tail _ (.head _))) (xsc (.tail _ (.tail _ (.tail _ (.head _)))) (xsc (.tail _ (.tail _ (.tail _ (.tail _ (.head _))))) (xsc (.tail _ (.tail _ (.tail _ (.tail _ (.tail _ (.head _)))))) (xsc (.tail _ (.tail _ (.tail _ (.tail _ (.tail _ (.tail _ (.head _))))))) (xsc (.head _) xsn))))))) (show ([6, 0, 1, 2, 3, 4, 5] : List Nat).Nodup from by decide) (hK118 v0 v1 v2 v3 v4 v5 (v6 + 1) M1)
def f_Meetings_findClashes_118 (O : Nat → Option va_E) (f : Nat) (K90 : Nat → Nat → Nat → Int → Int → xM → Option (Int × xM)) : Nat → Nat → Nat → Nat → Int → Int → Int → Int → xM → Option (Int × xM)
  | 0, _, _, _, _, _, _, _, _ => none
  | n + 1, v0, v1, v2, v3, v4, v5, v6, M =>
    if yw v3 ≤ yw v6 then (
      K90 v0 v1 v2 v3 (v4 + 1) M
    ) else
    if yw 256 ≤ yw v6 then (
      K90 v0 v1 v2 v3 (v4 + 1) M
    ) else
    (isO O M v1 2).bind fun _ =>
    xcl (f_Dates_beginAt O f v1 v6 M) fun x1 M1 =>
    if yw (x1 - v5) < yw 45 then (
      if yw (x1 - v5) < yw 0 then (
        f_Meetings_findClashes_181 O f (f_Meetings_findClashes_118 O f K90 n) v0 v1 v2 v3 v4 v5 v6 M1
      ) else
      (gR O M1 v0 5 7).bind fun x2 =>
      (aJ O M1 x2 v4).bind fun x3 =>
      (gR O M1 v0 5 7).bind fun x4 =>
      (aJ O M1 x4 v6).bind fun x5 =>
      xcl (f_Meetings_way O f v2 x3 x5 M1) fun x6 M2 =>
      if yw x6 ≤ yw (x1 - v5) then (
        f_Meetings_findClashes_118 O f K90 n v0 v1 v2 v3 v4 v5 (v6 + 1) M2
      ) else
      f_Meetings_findClashes_181 O f (f_Meetings_findClashes_118 O f K90 n) v0 v1 v2 v3 v4 v5 v6 M2
    ) else
    K90 v0 v1 v2 v3 (v4 + 1) M1
set_option maxRecDepth 20000 in
theorem k_f_Meetings_findClashes_118 (O : Nat → Option va_E) (f d : Nat) (K90 : Nat → Nat → Nat → Int → Int → xM → Option (Int × xM)) (hK90 : ∀ (v0 : Nat) (v1 : Nat) (v2 : Nat) (v3 : Int) (v4 : Int) M, xZ oJ O (d + 3) 199 90 [(0, .ref v0), (1, .ref v1), (2, .ref v2), (3, .int (yw v3)), (4, .int (yw v4))] [] M (K90 v0 v1 v2 v3 v4 M)) : ∀ (n : Nat) (v0 : Nat) (v1 : Nat) (v2 : Nat) (v3 : Int) (v4 : Int) (v5 : Int) (v6 : Int) (M : xM), xZ oJ O (d + 3) 199 118 [(0, .ref v0), (1, .ref v1), (2, .ref v2), (3, .int (yw v3)), (4, .int (yw v4)), (5, .int (yw v5)), (6, .int (yw v6))] [] M (f_Meetings_findClashes_118 O f K90 n v0 v1 v2 v3 v4 v5 v6 M) := by
  intro n
  induction n with
  | zero =>
    intro v0 v1 v2 v3 v4 v5 v6 M
    exact xZ.no
  | succ n ih =>
    intro v0 v1 v2 v3 v4 v5 v6 M
    unfold f_Meetings_findClashes_118
    refine xZ.adv (me := xm199) hP_199 2 (pc' := 121) (lv' := [(0, .ref v0), (1, .ref v1), (2, .ref v2), (3, .int (yw v3)), (4, .int (yw v4)), (5, .int (yw v5)), (6, .int (yw v6))]) (st' := [.int (yw v3), .int (yw v6)]) rfl ?_
    refine xZ.jc_ge (me := xm199) hP_199 rfl (fun h1 => ?_) (fun h1 => ?_)
    · skip
      refine xZ.adv (me := xm199) hP_199 2 (pc' := 90) (lv' := [(4, .int ((yw v4) + (1 : Int32))), (0, .ref v0), (1, .ref v1), (2, .ref v2), (3, .int (yw v3)), (5, .int (yw v5)), (6, .int (yw v6))]) (st' := []) rfl ?_
      refine xZ.eqs (lv2 := [(4, .int (yw (v4 + 1))), (0, .ref v0), (1, .ref v1), (2, .ref v2), (3, .int (yw v3)), (5, .int (yw v5)), (6, .int (yw v6))]) (st2 := []) (by simp only [yl_lit, yL_lit, yw_add, yw_sub, yw_mul, yw_neg, yl_add, yl_sub, yl_mul, cj_and, cj_or, cj_xor, cj_shl, cj_shr, cj_ushr, cj_div, cj_i2c, cj_i2b, cj_dc, ck_and, ck_or, ck_xor, ck_shl, ck_shr, ck_ushr, ck_i2l, ck_l2i, ck_cmp]) rfl ?_
      exact xZ.sub (xsc (.tail _ (.head _)) (xsc (.tail _ (.tail _ (.head _))) (xsc (.tail _ (.tail _ (.tail _ (.head _)))) (xsc (.tail _ (.tail _ (.tail _ (.tail _ (.head _))))) (xsc (.head _) xsn))))) (show ([4, 0, 1, 2, 3, 5, 6] : List Nat).Nodup from by decide) (hK90 v0 v1 v2 v3 (v4 + 1) M)
    · skip
      refine xZ.adv (me := xm199) hP_199 2 (pc' := 129) (lv' := [(0, .ref v0), (1, .ref v1), (2, .ref v2), (3, .int (yw v3)), (4, .int (yw v4)), (5, .int (yw v5)), (6, .int (yw v6))]) (st' := [.int (256 : Int32), .int (yw v6)]) rfl ?_
      refine xZ.eqs (lv2 := [(0, .ref v0), (1, .ref v1), (2, .ref v2), (3, .int (yw v3)), (4, .int (yw v4)), (5, .int (yw v5)), (6, .int (yw v6))]) (st2 := [.int (yw 256), .int (yw v6)]) rfl (by simp only [yl_lit, yL_lit, yw_add, yw_sub, yw_mul, yw_neg, yl_add, yl_sub, yl_mul, cj_and, cj_or, cj_xor, cj_shl, cj_shr, cj_ushr, cj_div, cj_i2c, cj_i2b, cj_dc, ck_and, ck_or, ck_xor, ck_shl, ck_shr, ck_ushr, ck_i2l, ck_l2i, ck_cmp]) ?_
      refine xZ.jc_ge (me := xm199) hP_199 rfl (fun h2 => ?_) (fun h2 => ?_)
      · skip
        refine xZ.adv (me := xm199) hP_199 2 (pc' := 90) (lv' := [(4, .int ((yw v4) + (1 : Int32))), (0, .ref v0), (1, .ref v1), (2, .ref v2), (3, .int (yw v3)), (5, .int (yw v5)), (6, .int (yw v6))]) (st' := []) rfl ?_
        refine xZ.eqs (lv2 := [(4, .int (yw (v4 + 1))), (0, .ref v0), (1, .ref v1), (2, .ref v2), (3, .int (yw v3)), (5, .int (yw v5)), (6, .int (yw v6))]) (st2 := []) (by simp only [yl_lit, yL_lit, yw_add, yw_sub, yw_mul, yw_neg, yl_add, yl_sub, yl_mul, cj_and, cj_or, cj_xor, cj_shl, cj_shr, cj_ushr, cj_div, cj_i2c, cj_i2b, cj_dc, ck_and, ck_or, ck_xor, ck_shl, ck_shr, ck_ushr, ck_i2l, ck_l2i, ck_cmp]) rfl ?_
        exact xZ.sub (xsc (.tail _ (.head _)) (xsc (.tail _ (.tail _ (.head _))) (xsc (.tail _ (.tail _ (.tail _ (.head _)))) (xsc (.tail _ (.tail _ (.tail _ (.tail _ (.head _))))) (xsc (.head _) xsn))))) (show ([4, 0, 1, 2, 3, 5, 6] : List Nat).Nodup from by decide) (hK90 v0 v1 v2 v3 (v4 + 1) M)
      · skip
        refine xZ.adv (me := xm199) hP_199 2 (pc' := 135) (lv' := [(0, .ref v0), (1, .ref v1), (2, .ref v2), (3, .int (yw v3)), (4, .int (yw v4)), (5, .int (yw v5)), (6, .int (yw v6))]) (st' := [.int (yw v6), .ref v1]) rfl ?_
        refine xZ.callv (κ := oJ) (av := [.int (yw v6)]) (rest := []) (st' := fun x1 => [.int (yw x1)]) (k0 := v1) (me := xm199) hP_199 rfl (Or.inl rfl) ⟨rfl, by decide⟩ rfl rfl (Nat.le_of_ble_eq_true rfl) (by decide) hP_171 (Nat.le_of_ble_eq_true rfl) (fun _ => rfl) (k_f_Dates_beginAt O f (d + 1) v1 v6 M) (fun x1 M1 => ?_)
        refine xZ.adv (me := xm199) hP_199 5 (pc' := 147) (lv' := [(7, .int ((yw x1) - (yw v5))), (0, .ref v0), (1, .ref v1), (2, .ref v2), (3, .int (yw v3)), (4, .int (yw v4)), (5, .int (yw v5)), (6, .int (yw v6))]) (st' := [.int (45 : Int32), .int ((yw x1) - (yw v5))]) rfl ?_
        refine xZ.eqs (lv2 := [(7, .int (yw (x1 - v5))), (0, .ref v0), (1, .ref v1), (2, .ref v2), (3, .int (yw v3)), (4, .int (yw v4)), (5, .int (yw v5)), (6, .int (yw v6))]) (st2 := [.int (yw 45), .int (yw (x1 - v5))]) (by simp only [yl_lit, yL_lit, yw_add, yw_sub, yw_mul, yw_neg, yl_add, yl_sub, yl_mul, cj_and, cj_or, cj_xor, cj_shl, cj_shr, cj_ushr, cj_div, cj_i2c, cj_i2b, cj_dc, ck_and, ck_or, ck_xor, ck_shl, ck_shr, ck_ushr, ck_i2l, ck_l2i, ck_cmp]) (by simp only [yl_lit, yL_lit, yw_add, yw_sub, yw_mul, yw_neg, yl_add, yl_sub, yl_mul, cj_and, cj_or, cj_xor, cj_shl, cj_shr, cj_ushr, cj_div, cj_i2c, cj_i2b, cj_dc, ck_and, ck_or, ck_xor, ck_shl, ck_shr, ck_ushr, ck_i2l, ck_l2i, ck_cmp]) ?_
        refine xZ.jc_lt (me := xm199) hP_199 rfl (fun h3 => ?_) (fun h3 => ?_)
        · skip
          refine xZ.adv (me := xm199) hP_199 1 (pc' := 155) (lv' := [(7, .int (yw (x1 - v5))), (0, .ref v0), (1, .ref v1), (2, .ref v2), (3, .int (yw v3)), (4, .int (yw v4)), (5, .int (yw v5)), (6, .int (yw v6))]) (st' := [.int (yw (x1 - v5))]) rfl ?_
          refine xZ.jf_lt (me := xm199) hP_199 rfl (fun h4 => ?_) (fun h4 => ?_)
          · skip
            exact xZ.sub (xsc (.tail _ (.head _)) (xsc (.tail _ (.tail _ (.head _))) (xsc (.tail _ (.tail _ (.tail _ (.head _)))) (xsc (.tail _ (.tail _ (.tail _ (.tail _ (.head _))))) (xsc (.tail _ (.tail _ (.tail _ (.tail _ (.tail _ (.head _)))))) (xsc (.tail _ (.tail _ (.tail _ (.tail _ (.tail _ (.tail _ (.head _))))))) (xsc (.tail _ (.tail _ (.tail _ (.tail _ (.tail _ (.tail _ (.tail _ (.head _)))))))) xsn))))))) (show ([7, 0, 1, 2, 3, 4, 5, 6] : List Nat).Nodup from by decide) (k_f_Meetings_findClashes_181 O f d (f_Meetings_findClashes_118 O f K90 n) ih v0 v1 v2 v3 v4 v5 v6 M1)
          · skip
            refine xZ.adv (me := xm199) hP_199 3 (pc' := 162) (lv' := [(7, .int (yw (x1 - v5))), (0, .ref v0), (1, .ref v1), (2, .ref v2), (3, .int (yw v3)), (4, .int (yw v4)), (5, .int (yw v5)), (6, .int (yw v6))]) (st' := [.ref v0, .ref v2, .int (yw (x1 - v5))]) rfl ?_
            refine xZ.k_gR (me := xm199) hP_199 rfl (fun x2 => ?_)
            refine xZ.adv (me := xm199) hP_199 1 (pc' := 167) (lv' := [(7, .int (yw (x1 - v5))), (0, .ref v0), (1, .ref v1), (2, .ref v2), (3, .int (yw v3)), (4, .int (yw v4)), (5, .int (yw v5)), (6, .int (yw v6))]) (st' := [.int (yw v4), .ref x2, .ref v2, .int (yw (x1 - v5))]) rfl ?_
            refine xZ.k_aJ (me := xm199) hP_199 rfl (fun x3 => ?_)
            refine xZ.adv (me := xm199) hP_199 1 (pc' := 169) (lv' := [(7, .int (yw (x1 - v5))), (0, .ref v0), (1, .ref v1), (2, .ref v2), (3, .int (yw v3)), (4, .int (yw v4)), (5, .int (yw v5)), (6, .int (yw v6))]) (st' := [.ref v0, .int (yw x3), .ref v2, .int (yw (x1 - v5))]) rfl ?_
            refine xZ.k_gR (me := xm199) hP_199 rfl (fun x4 => ?_)
            refine xZ.adv (me := xm199) hP_199 1 (pc' := 174) (lv' := [(7, .int (yw (x1 - v5))), (0, .ref v0), (1, .ref v1), (2, .ref v2), (3, .int (yw v3)), (4, .int (yw v4)), (5, .int (yw v5)), (6, .int (yw v6))]) (st' := [.int (yw v6), .ref x4, .int (yw x3), .ref v2, .int (yw (x1 - v5))]) rfl ?_
            refine xZ.k_aJ (me := xm199) hP_199 rfl (fun x5 => ?_)
            refine xZ.calls (κ := oJ) (av := [.ref v2, .int (yw x3), .int (yw x5)]) (rest := [.int (yw (x1 - v5))]) (st' := fun x6 => [.int (yw x6), .int (yw (x1 - v5))]) (me := xm199) hP_199 rfl rfl rfl (Nat.le_of_ble_eq_true rfl) (by decide) hP_200 (Nat.le_of_ble_eq_true rfl) (fun _ => rfl) (k_f_Meetings_way O f (d + 1) v2 x3 x5 M1) (fun x6 M2 => ?_)
            refine xZ.jc_ge (me := xm199) hP_199 rfl (fun h5 => ?_) (fun h5 => ?_)
            · skip
              refine xZ.adv (me := xm199) hP_199 2 (pc' := 118) (lv' := [(6, .int ((yw v6) + (1 : Int32))), (7, .int (yw (x1 - v5))), (0, .ref v0), (1, .ref v1), (2, .ref v2), (3, .int (yw v3)), (4, .int (yw v4)), (5, .int (yw v5))]) (st' := []) rfl ?_
              refine xZ.eqs (lv2 := [(6, .int (yw (v6 + 1))), (7, .int (yw (x1 - v5))), (0, .ref v0), (1, .ref v1), (2, .ref v2), (3, .int (yw v3)), (4, .int (yw v4)), (5, .int (yw v5))]) (st2 := []) (by simp only [yl_lit, yL_lit, yw_add, yw_sub, yw_mul, yw_neg, yl_add, yl_sub, yl_mul, cj_and, cj_or, cj_xor, cj_shl, cj_shr, cj_ushr, cj_div, cj_i2c, cj_i2b, cj_dc, ck_and, ck_or, ck_xor, ck_shl, ck_shr, ck_ushr, ck_i2l, ck_l2i, ck_cmp]) rfl ?_
              exact xZ.sub (xsc (.tail _ (.tail _ (.head _))) (xsc (.tail _ (.tail _ (.tail _ (.head _)))) (xsc (.tail _ (.tail _ (.tail _ (.tail _ (.head _))))) (xsc (.tail _ (.tail _ (.tail _ (.tail _ (.tail _ (.head _)))))) (xsc (.tail _ (.tail _ (.tail _ (.tail _ (.tail _ (.tail _ (.head _))))))) (xsc (.tail _ (.tail _ (.tail _ (.tail _ (.tail _ (.tail _ (.tail _ (.head _)))))))) (xsc (.head _) xsn))))))) (show ([6, 7, 0, 1, 2, 3, 4, 5] : List Nat).Nodup from by decide) (ih v0 v1 v2 v3 v4 v5 (v6 + 1) M2)
            · skip
              exact xZ.sub (xsc (.tail _ (.head _)) (xsc (.tail _ (.tail _ (.head _))) (xsc (.tail _ (.tail _ (.tail _ (.head _)))) (xsc (.tail _ (.tail _ (.tail _ (.tail _ (.head _))))) (xsc (.tail _ (.tail _ (.tail _ (.tail _ (.tail _ (.head _)))))) (xsc (.tail _ (.tail _ (.tail _ (.tail _ (.tail _ (.tail _ (.head _))))))) (xsc (.tail _ (.tail _ (.tail _ (.tail _ (.tail _ (.tail _ (.tail _ (.head _)))))))) xsn))))))) (show ([7, 0, 1, 2, 3, 4, 5, 6] : List Nat).Nodup from by decide) (k_f_Meetings_findClashes_181 O f d (f_Meetings_findClashes_118 O f K90 n) ih v0 v1 v2 v3 v4 v5 v6 M2)
        · skip
          refine xZ.adv (me := xm199) hP_199 3 (pc' := 90) (lv' := [(4, .int ((yw v4) + (1 : Int32))), (7, .int (yw (x1 - v5))), (0, .ref v0), (1, .ref v1), (2, .ref v2), (3, .int (yw v3)), (5, .int (yw v5)), (6, .int (yw v6))]) (st' := []) rfl ?_
          refine xZ.eqs (lv2 := [(4, .int (yw (v4 + 1))), (7, .int (yw (x1 - v5))), (0, .ref v0), (1, .ref v1), (2, .ref v2), (3, .int (yw v3)), (5, .int (yw v5)), (6, .int (yw v6))]) (st2 := []) (by simp only [yl_lit, yL_lit, yw_add, yw_sub, yw_mul, yw_neg, yl_add, yl_sub, yl_mul, cj_and, cj_or, cj_xor, cj_shl, cj_shr, cj_ushr, cj_div, cj_i2c, cj_i2b, cj_dc, ck_and, ck_or, ck_xor, ck_shl, ck_shr, ck_ushr, ck_i2l, ck_l2i, ck_cmp]) rfl ?_
          exact xZ.sub (xsc (.tail _ (.tail _ (.head _))) (xsc (.tail _ (.tail _ (.tail _ (.head _)))) (xsc (.tail _ (.tail _ (.tail _ (.tail _ (.head _))))) (xsc (.tail _ (.tail _ (.tail _ (.tail _ (.tail _ (.head _)))))) (xsc (.head _) xsn))))) (show ([4, 7, 0, 1, 2, 3, 5, 6] : List Nat).Nodup from by decide) (hK90 v0 v1 v2 v3 (v4 + 1) M1)
def f_Meetings_findClashes_90 (O : Nat → Option va_E) (f : Nat) : Nat → Nat → Nat → Nat → Int → Int → xM → Option (Int × xM)
  | 0, _, _, _, _, _, _ => none
  | n + 1, v0, v1, v2, v3, v4, M =>
    if yw v3 ≤ yw v4 then (
      f_Meetings_findClashes_206 O f v0 M
    ) else
    if yw 256 ≤ yw v4 then (
      f_Meetings_findClashes_206 O f v0 M
    ) else
    (isO O M v1 2).bind fun _ =>
    xcl (f_Dates_endAt O f v1 v4 M) fun x1 M1 =>
    f_Meetings_findClashes_118 O f (f_Meetings_findClashes_90 O f n) f v0 v1 v2 v3 v4 x1 (v4 + 1) M1
set_option maxRecDepth 20000 in
theorem k_f_Meetings_findClashes_90 (O : Nat → Option va_E) (f d : Nat) : ∀ (n : Nat) (v0 : Nat) (v1 : Nat) (v2 : Nat) (v3 : Int) (v4 : Int) (M : xM), xZ oJ O (d + 3) 199 90 [(0, .ref v0), (1, .ref v1), (2, .ref v2), (3, .int (yw v3)), (4, .int (yw v4))] [] M (f_Meetings_findClashes_90 O f n v0 v1 v2 v3 v4 M) := by
  intro n
  induction n with
  | zero =>
    intro v0 v1 v2 v3 v4 M
    exact xZ.no
  | succ n ih =>
    intro v0 v1 v2 v3 v4 M
    unfold f_Meetings_findClashes_90
    refine xZ.adv (me := xm199) hP_199 2 (pc' := 93) (lv' := [(0, .ref v0), (1, .ref v1), (2, .ref v2), (3, .int (yw v3)), (4, .int (yw v4))]) (st' := [.int (yw v3), .int (yw v4)]) rfl ?_
    refine xZ.jc_ge (me := xm199) hP_199 rfl (fun h1 => ?_) (fun h1 => ?_)
    · skip
      exact xZ.sub (xsc (.head _) xsn) (show ([0, 1, 2, 3, 4] : List Nat).Nodup from by decide) (k_f_Meetings_findClashes_206 O f d v0 M)
    · skip
      refine xZ.adv (me := xm199) hP_199 2 (pc' := 101) (lv' := [(0, .ref v0), (1, .ref v1), (2, .ref v2), (3, .int (yw v3)), (4, .int (yw v4))]) (st' := [.int (256 : Int32), .int (yw v4)]) rfl ?_
      refine xZ.eqs (lv2 := [(0, .ref v0), (1, .ref v1), (2, .ref v2), (3, .int (yw v3)), (4, .int (yw v4))]) (st2 := [.int (yw 256), .int (yw v4)]) rfl (by simp only [yl_lit, yL_lit, yw_add, yw_sub, yw_mul, yw_neg, yl_add, yl_sub, yl_mul, cj_and, cj_or, cj_xor, cj_shl, cj_shr, cj_ushr, cj_div, cj_i2c, cj_i2b, cj_dc, ck_and, ck_or, ck_xor, ck_shl, ck_shr, ck_ushr, ck_i2l, ck_l2i, ck_cmp]) ?_
      refine xZ.jc_ge (me := xm199) hP_199 rfl (fun h2 => ?_) (fun h2 => ?_)
      · skip
        exact xZ.sub (xsc (.head _) xsn) (show ([0, 1, 2, 3, 4] : List Nat).Nodup from by decide) (k_f_Meetings_findClashes_206 O f d v0 M)
      · skip
        refine xZ.adv (me := xm199) hP_199 2 (pc' := 107) (lv' := [(0, .ref v0), (1, .ref v1), (2, .ref v2), (3, .int (yw v3)), (4, .int (yw v4))]) (st' := [.int (yw v4), .ref v1]) rfl ?_
        refine xZ.callv (κ := oJ) (av := [.int (yw v4)]) (rest := []) (st' := fun x1 => [.int (yw x1)]) (k0 := v1) (me := xm199) hP_199 rfl (Or.inl rfl) ⟨rfl, by decide⟩ rfl rfl (Nat.le_of_ble_eq_true rfl) (by decide) hP_170 (Nat.le_of_ble_eq_true rfl) (fun _ => rfl) (k_f_Dates_endAt O f (d + 0) v1 v4 M) (fun x1 M1 => ?_)
        refine xZ.adv (me := xm199) hP_199 5 (pc' := 118) (lv' := [(6, .int ((yw v4) + (1 : Int32))), (5, .int (yw x1)), (0, .ref v0), (1, .ref v1), (2, .ref v2), (3, .int (yw v3)), (4, .int (yw v4))]) (st' := []) rfl ?_
        refine xZ.eqs (lv2 := [(6, .int (yw (v4 + 1))), (5, .int (yw x1)), (0, .ref v0), (1, .ref v1), (2, .ref v2), (3, .int (yw v3)), (4, .int (yw v4))]) (st2 := []) (by simp only [yl_lit, yL_lit, yw_add, yw_sub, yw_mul, yw_neg, yl_add, yl_sub, yl_mul, cj_and, cj_or, cj_xor, cj_shl, cj_shr, cj_ushr, cj_div, cj_i2c, cj_i2b, cj_dc, ck_and, ck_or, ck_xor, ck_shl, ck_shr, ck_ushr, ck_i2l, ck_l2i, ck_cmp]) rfl ?_
        exact xZ.sub (xsc (.tail _ (.tail _ (.head _))) (xsc (.tail _ (.tail _ (.tail _ (.head _)))) (xsc (.tail _ (.tail _ (.tail _ (.tail _ (.head _))))) (xsc (.tail _ (.tail _ (.tail _ (.tail _ (.tail _ (.head _)))))) (xsc (.tail _ (.tail _ (.tail _ (.tail _ (.tail _ (.tail _ (.head _))))))) (xsc (.tail _ (.head _)) (xsc (.head _) xsn))))))) (show ([6, 5, 0, 1, 2, 3, 4] : List Nat).Nodup from by decide) (k_f_Meetings_findClashes_118 O f d (f_Meetings_findClashes_90 O f n) ih f v0 v1 v2 v3 v4 x1 (v4 + 1) M1)
def f_Meetings_findClashes_87 (O : Nat → Option va_E) (f : Nat) (v0 : Nat) (v1 : Nat) (v2 : Nat) (v3 : Int) (M : xM) : Option (Int × xM) :=
  f_Meetings_findClashes_90 O f f v0 v1 v2 v3 0 M
set_option maxRecDepth 20000 in
theorem k_f_Meetings_findClashes_87 (O : Nat → Option va_E) (f d : Nat) (v0 : Nat) (v1 : Nat) (v2 : Nat) (v3 : Int) (M : xM) : xZ oJ O (d + 3) 199 87 [(0, .ref v0), (1, .ref v1), (2, .ref v2), (3, .int (yw v3))] [] M (f_Meetings_findClashes_87 O f v0 v1 v2 v3 M) := by
  unfold f_Meetings_findClashes_87
  refine xZ.adv (me := xm199) hP_199 2 (pc' := 90) (lv' := [(4, .int (0 : Int32)), (0, .ref v0), (1, .ref v1), (2, .ref v2), (3, .int (yw v3))]) (st' := []) rfl ?_
  refine xZ.eqs (lv2 := [(4, .int (yw 0)), (0, .ref v0), (1, .ref v1), (2, .ref v2), (3, .int (yw v3))]) (st2 := []) (by simp only [yl_lit, yL_lit, yw_add, yw_sub, yw_mul, yw_neg, yl_add, yl_sub, yl_mul, cj_and, cj_or, cj_xor, cj_shl, cj_shr, cj_ushr, cj_div, cj_i2c, cj_i2b, cj_dc, ck_and, ck_or, ck_xor, ck_shl, ck_shr, ck_ushr, ck_i2l, ck_l2i, ck_cmp]) rfl ?_
  exact xZ.sub (xsc (.tail _ (.head _)) (xsc (.tail _ (.tail _ (.head _))) (xsc (.tail _ (.tail _ (.tail _ (.head _)))) (xsc (.tail _ (.tail _ (.tail _ (.tail _ (.head _))))) (xsc (.head _) xsn))))) (show ([4, 0, 1, 2, 3] : List Nat).Nodup from by decide) (k_f_Meetings_findClashes_90 O f d f v0 v1 v2 v3 0 M)
def f_Meetings_findClashes_19 (O : Nat → Option va_E) (f : Nat) : Nat → Nat → Nat → Nat → Int → Int → xM → Option (Int × xM)
  | 0, _, _, _, _, _, _ => none
  | n + 1, v0, v1, v2, v3, v4, M =>
    if yw v3 ≤ yw v4 then (
      f_Meetings_findClashes_87 O f v0 v1 v2 v3 M
    ) else
    if yw 256 ≤ yw v4 then (
      f_Meetings_findClashes_87 O f v0 v1 v2 v3 M
    ) else
    (gR O M v0 5 6).bind fun x1 =>
    (isO O M v1 2).bind fun _ =>
    xcl (f_Dates_rowAt O f v1 v4 M) fun x2 M1 =>
    (wK M1 x1 v4 x2).bind fun M2 =>
    (gR O M2 v0 5 7).bind fun x3 =>
    (gR O M2 v0 5 6).bind fun x4 =>
    (aK O M2 x4 v4).bind fun x5 =>
    xcl (f_Dates_numberOf O f x5 M2) fun x6 M3 =>
    (gR O M3 v0 5 6).bind fun x7 =>
    (aK O M3 x7 v4).bind fun x8 =>
    xcl (f_Dates_dayIn O f x8 M3) fun x9 M4 =>
    (isO O M4 v0 5).bind fun _ =>
    xcl (f_Meetings_placeOf O f v0 x6 x9 M4) fun x10 M5 =>
    (isO O M5 v0 5).bind fun _ =>
    xcl (f_Meetings_roomAt O f v0 x10 M5) fun x11 M6 =>
    (wJ M6 x3 v4 x11).bind fun M7 =>
    f_Meetings_findClashes_19 O f n v0 v1 v2 v3 (v4 + 1) M7
set_option maxRecDepth 20000 in
theorem k_f_Meetings_findClashes_19 (O : Nat → Option va_E) (f d : Nat) : ∀ (n : Nat) (v0 : Nat) (v1 : Nat) (v2 : Nat) (v3 : Int) (v4 : Int) (M : xM), xZ oJ O (d + 3) 199 19 [(0, .ref v0), (1, .ref v1), (2, .ref v2), (3, .int (yw v3)), (4, .int (yw v4))] [] M (f_Meetings_findClashes_19 O f n v0 v1 v2 v3 v4 M) := by
  intro n
  induction n with
  | zero =>
    intro v0 v1 v2 v3 v4 M
    exact xZ.no
  | succ n ih =>
    intro v0 v1 v2 v3 v4 M
    unfold f_Meetings_findClashes_19
    refine xZ.adv (me := xm199) hP_199 2 (pc' := 22) (lv' := [(0, .ref v0), (1, .ref v1), (2, .ref v2), (3, .int (yw v3)), (4, .int (yw v4))]) (st' := [.int (yw v3), .int (yw v4)]) rfl ?_
    refine xZ.jc_ge (me := xm199) hP_199 rfl (fun h1 => ?_) (fun h1 => ?_)
    · skip
      exact xZ.sub (xsc (.head _) (xsc (.tail _ (.head _)) (xsc (.tail _ (.tail _ (.head _))) (xsc (.tail _ (.tail _ (.tail _ (.head _)))) xsn)))) (show ([0, 1, 2, 3, 4] : List Nat).Nodup from by decide) (k_f_Meetings_findClashes_87 O f d v0 v1 v2 v3 M)
    · skip
      refine xZ.adv (me := xm199) hP_199 2 (pc' := 30) (lv' := [(0, .ref v0), (1, .ref v1), (2, .ref v2), (3, .int (yw v3)), (4, .int (yw v4))]) (st' := [.int (256 : Int32), .int (yw v4)]) rfl ?_
      refine xZ.eqs (lv2 := [(0, .ref v0), (1, .ref v1), (2, .ref v2), (3, .int (yw v3)), (4, .int (yw v4))]) (st2 := [.int (yw 256), .int (yw v4)]) rfl (by simp only [yl_lit, yL_lit, yw_add, yw_sub, yw_mul, yw_neg, yl_add, yl_sub, yl_mul, cj_and, cj_or, cj_xor, cj_shl, cj_shr, cj_ushr, cj_div, cj_i2c, cj_i2b, cj_dc, ck_and, ck_or, ck_xor, ck_shl, ck_shr, ck_ushr, ck_i2l, ck_l2i, ck_cmp]) ?_
      refine xZ.jc_ge (me := xm199) hP_199 rfl (fun h2 => ?_) (fun h2 => ?_)
      · skip
        exact xZ.sub (xsc (.head _) (xsc (.tail _ (.head _)) (xsc (.tail _ (.tail _ (.head _))) (xsc (.tail _ (.tail _ (.tail _ (.head _)))) xsn)))) (show ([0, 1, 2, 3, 4] : List Nat).Nodup from by decide) (k_f_Meetings_findClashes_87 O f d v0 v1 v2 v3 M)
      · skip
        refine xZ.adv (me := xm199) hP_199 1 (pc' := 34) (lv' := [(0, .ref v0), (1, .ref v1), (2, .ref v2), (3, .int (yw v3)), (4, .int (yw v4))]) (st' := [.ref v0]) rfl ?_
        refine xZ.k_gR (me := xm199) hP_199 rfl (fun x1 => ?_)
        refine xZ.adv (me := xm199) hP_199 3 (pc' := 42) (lv' := [(0, .ref v0), (1, .ref v1), (2, .ref v2), (3, .int (yw v3)), (4, .int (yw v4))]) (st' := [.int (yw v4), .ref v1, .int (yw v4), .ref x1]) rfl ?_
        refine xZ.callv (κ := oK) (av := [.int (yw v4)]) (rest := [.int (yw v4), .ref x1]) (st' := fun x2 => [.long (yl x2), .int (yw v4), .ref x1]) (k0 := v1) (me := xm199) hP_199 rfl (Or.inl rfl) ⟨rfl, by decide⟩ rfl rfl (Nat.le_of_ble_eq_true rfl) (by decide) hP_167 (Nat.le_of_ble_eq_true rfl) (fun _ => rfl) (k_f_Dates_rowAt O f (d + 2) v1 v4 M) (fun x2 M1 => ?_)
        refine xZ.k_wK (me := xm199) hP_199 rfl (fun M2 => ?_)
        refine xZ.adv (me := xm199) hP_199 1 (pc' := 47) (lv' := [(0, .ref v0), (1, .ref v1), (2, .ref v2), (3, .int (yw v3)), (4, .int (yw v4))]) (st' := [.ref v0]) rfl ?_
        refine xZ.k_gR (me := xm199) hP_199 rfl (fun x3 => ?_)
        refine xZ.adv (me := xm199) hP_199 4 (pc' := 55) (lv' := [(0, .ref v0), (1, .ref v1), (2, .ref v2), (3, .int (yw v3)), (4, .int (yw v4))]) (st' := [.ref v0, .ref v0, .ref v0, .int (yw v4), .ref x3]) rfl ?_
        refine xZ.k_gR (me := xm199) hP_199 rfl (fun x4 => ?_)
        refine xZ.adv (me := xm199) hP_199 1 (pc' := 60) (lv' := [(0, .ref v0), (1, .ref v1), (2, .ref v2), (3, .int (yw v3)), (4, .int (yw v4))]) (st' := [.int (yw v4), .ref x4, .ref v0, .ref v0, .int (yw v4), .ref x3]) rfl ?_
        refine xZ.k_aK (me := xm199) hP_199 rfl (fun x5 => ?_)
        refine xZ.calls (κ := oJ) (av := [.long (yl x5)]) (rest := [.ref v0, .ref v0, .int (yw v4), .ref x3]) (st' := fun x6 => [.int (yw x6), .ref v0, .ref v0, .int (yw v4), .ref x3]) (me := xm199) hP_199 rfl rfl rfl (Nat.le_of_ble_eq_true rfl) (by decide) hP_174 (Nat.le_of_ble_eq_true rfl) (fun _ => rfl) (k_f_Dates_numberOf O f (d + 2) x5 M2) (fun x6 M3 => ?_)
        refine xZ.adv (me := xm199) hP_199 1 (pc' := 65) (lv' := [(0, .ref v0), (1, .ref v1), (2, .ref v2), (3, .int (yw v3)), (4, .int (yw v4))]) (st' := [.ref v0, .int (yw x6), .ref v0, .ref v0, .int (yw v4), .ref x3]) rfl ?_
        refine xZ.k_gR (me := xm199) hP_199 rfl (fun x7 => ?_)
        refine xZ.adv (me := xm199) hP_199 1 (pc' := 70) (lv' := [(0, .ref v0), (1, .ref v1), (2, .ref v2), (3, .int (yw v3)), (4, .int (yw v4))]) (st' := [.int (yw v4), .ref x7, .int (yw x6), .ref v0, .ref v0, .int (yw v4), .ref x3]) rfl ?_
        refine xZ.k_aK (me := xm199) hP_199 rfl (fun x8 => ?_)
        refine xZ.calls (κ := oJ) (av := [.long (yl x8)]) (rest := [.int (yw x6), .ref v0, .ref v0, .int (yw v4), .ref x3]) (st' := fun x9 => [.int (yw x9), .int (yw x6), .ref v0, .ref v0, .int (yw v4), .ref x3]) (me := xm199) hP_199 rfl rfl rfl (Nat.le_of_ble_eq_true rfl) (by decide) hP_123 (Nat.le_of_ble_eq_true rfl) (fun _ => rfl) (k_f_Dates_dayIn O f (d + 2) x8 M3) (fun x9 M4 => ?_)
        refine xZ.callv (κ := oJ) (av := [.int (yw x6), .int (yw x9)]) (rest := [.ref v0, .int (yw v4), .ref x3]) (st' := fun x10 => [.int (yw x10), .ref v0, .int (yw v4), .ref x3]) (k0 := v0) (me := xm199) hP_199 rfl (Or.inl rfl) ⟨rfl, by decide⟩ rfl rfl (Nat.le_of_ble_eq_true rfl) (by decide) hP_196 (Nat.le_of_ble_eq_true rfl) (fun _ => rfl) (k_f_Meetings_placeOf O f (d + 2) v0 x6 x9 M4) (fun x10 M5 => ?_)
        refine xZ.callv (κ := oJ) (av := [.int (yw x10)]) (rest := [.int (yw v4), .ref x3]) (st' := fun x11 => [.int (yw x11), .int (yw v4), .ref x3]) (k0 := v0) (me := xm199) hP_199 rfl (Or.inl rfl) ⟨rfl, by decide⟩ rfl rfl (Nat.le_of_ble_eq_true rfl) (by decide) hP_197 (Nat.le_of_ble_eq_true rfl) (fun _ => rfl) (k_f_Meetings_roomAt O f (d + 2) v0 x10 M5) (fun x11 M6 => ?_)
        refine xZ.k_wJ (me := xm199) hP_199 rfl (fun M7 => ?_)
        refine xZ.adv (me := xm199) hP_199 2 (pc' := 19) (lv' := [(4, .int ((yw v4) + (1 : Int32))), (0, .ref v0), (1, .ref v1), (2, .ref v2), (3, .int (yw v3))]) (st' := []) rfl ?_
        refine xZ.eqs (lv2 := [(4, .int (yw (v4 + 1))), (0, .ref v0), (1, .ref v1), (2, .ref v2), (3, .int (yw v3))]) (st2 := []) (by simp only [yl_lit, yL_lit, yw_add, yw_sub, yw_mul, yw_neg, yl_add, yl_sub, yl_mul, cj_and, cj_or, cj_xor, cj_shl, cj_shr, cj_ushr, cj_div, cj_i2c, cj_i2b, cj_dc, ck_and, ck_or, ck_xor, ck_shl, ck_shr, ck_ushr, ck_i2l, ck_l2i, ck_cmp]) rfl ?_
        exact xZ.sub (xsc (.tail _ (.head _)) (xsc (.tail _ (.tail _ (.head _))) (xsc (.tail _ (.tail _ (.tail _ (.head _)))) (xsc (.tail _ (.tail _ (.tail _ (.tail _ (.head _))))) (xsc (.head _) xsn))))) (show ([4, 0, 1, 2, 3] : List Nat).Nodup from by decide) (ih v0 v1 v2 v3 (v4 + 1) M7)
def f_Meetings_findClashes (O : Nat → Option va_E) (f : Nat) (v0 : Nat) (v1 : Nat) (v2 : Nat) (M : xM) : Option (Int × xM) :=
  (gJ O M v1 2 0).bind fun x1 =>
  xcl (f_Math_min O f x1 256 M) fun x2 M1 =>
  (pJ M1 v0 5 5 0).bind fun M2 =>
  f_Meetings_findClashes_19 O f f v0 v1 v2 x2 0 M2
set_option maxRecDepth 20000 in
theorem k_f_Meetings_findClashes (O : Nat → Option va_E) (f d : Nat) (v0 : Nat) (v1 : Nat) (v2 : Nat) (M : xM) : xZ oJ O (d + 3) 199 0 [(0, .ref v0), (1, .ref v1), (2, .ref v2)] [] M (f_Meetings_findClashes O f v0 v1 v2 M) := by
  unfold f_Meetings_findClashes
  refine xZ.adv (me := xm199) hP_199 1 (pc' := 1) (lv' := [(0, .ref v0), (1, .ref v1), (2, .ref v2)]) (st' := [.ref v1]) rfl ?_
  refine xZ.k_gJ (me := xm199) hP_199 rfl (fun x1 => ?_)
  refine xZ.adv (me := xm199) hP_199 1 (pc' := 7) (lv' := [(0, .ref v0), (1, .ref v1), (2, .ref v2)]) (st' := [.int (256 : Int32), .int (yw x1)]) rfl ?_
  refine xZ.eqs (lv2 := [(0, .ref v0), (1, .ref v1), (2, .ref v2)]) (st2 := [.int (yw 256), .int (yw x1)]) rfl (by simp only [yl_lit, yL_lit, yw_add, yw_sub, yw_mul, yw_neg, yl_add, yl_sub, yl_mul, cj_and, cj_or, cj_xor, cj_shl, cj_shr, cj_ushr, cj_div, cj_i2c, cj_i2b, cj_dc, ck_and, ck_or, ck_xor, ck_shl, ck_shr, ck_ushr, ck_i2l, ck_l2i, ck_cmp]) ?_
  refine xZ.calls (κ := oJ) (av := [.int (yw x1), .int (yw 256)]) (rest := []) (st' := fun x2 => [.int (yw x2)]) (me := xm199) hP_199 rfl rfl rfl (Nat.le_of_ble_eq_true rfl) (by decide) hP_248 (Nat.le_of_ble_eq_true rfl) (fun _ => rfl) (k_f_Math_min O f (d + 2) x1 256 M) (fun x2 M1 => ?_)
  refine xZ.adv (me := xm199) hP_199 3 (pc' := 13) (lv' := [(3, .int (yw x2)), (0, .ref v0), (1, .ref v1), (2, .ref v2)]) (st' := [.int (0 : Int32), .ref v0]) rfl ?_
  refine xZ.eqs (lv2 := [(3, .int (yw x2)), (0, .ref v0), (1, .ref v1), (2, .ref v2)]) (st2 := [.int (yw 0), .ref v0]) rfl (by simp only [yl_lit, yL_lit, yw_add, yw_sub, yw_mul, yw_neg, yl_add, yl_sub, yl_mul, cj_and, cj_or, cj_xor, cj_shl, cj_shr, cj_ushr, cj_div, cj_i2c, cj_i2b, cj_dc, ck_and, ck_or, ck_xor, ck_shl, ck_shr, ck_ushr, ck_i2l, ck_l2i, ck_cmp]) ?_
  refine xZ.k_pJ (me := xm199) hP_199 rfl (fun M2 => ?_)
  refine xZ.adv (me := xm199) hP_199 2 (pc' := 19) (lv' := [(4, .int (0 : Int32)), (3, .int (yw x2)), (0, .ref v0), (1, .ref v1), (2, .ref v2)]) (st' := []) rfl ?_
  refine xZ.eqs (lv2 := [(4, .int (yw 0)), (3, .int (yw x2)), (0, .ref v0), (1, .ref v1), (2, .ref v2)]) (st2 := []) (by simp only [yl_lit, yL_lit, yw_add, yw_sub, yw_mul, yw_neg, yl_add, yl_sub, yl_mul, cj_and, cj_or, cj_xor, cj_shl, cj_shr, cj_ushr, cj_div, cj_i2c, cj_i2b, cj_dc, ck_and, ck_or, ck_xor, ck_shl, ck_shr, ck_ushr, ck_i2l, ck_l2i, ck_cmp]) rfl ?_
  exact xZ.sub (xsc (.tail _ (.tail _ (.head _))) (xsc (.tail _ (.tail _ (.tail _ (.head _)))) (xsc (.tail _ (.tail _ (.tail _ (.tail _ (.head _))))) (xsc (.tail _ (.head _)) (xsc (.head _) xsn))))) (show ([4, 3, 0, 1, 2] : List Nat).Nodup from by decide) (k_f_Meetings_findClashes_19 O f d f v0 v1 v2 x2 0 M2)
