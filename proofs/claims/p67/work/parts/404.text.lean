/-! ===== texts ===== -/
def f_Calendarhall_clearText (O : Nat → Option va_E) (f : Nat) (v0 : Nat) (M : xM) : Option (Int × xM) :=
  (gR O M v0 12 7).bind fun x1 =>
  (gJ O M x1 8 0).bind fun x2 =>
  (gR O M v0 12 7).bind fun x3 =>
  (pJ M x3 8 0 0).bind fun M1 =>
  some (x2, M1)
set_option maxRecDepth 20000 in
theorem k_f_Calendarhall_clearText (O : Nat → Option va_E) (f d : Nat) (v0 : Nat) (M : xM) : xZ oJ O (d + 0) 60 0 [(0, .ref v0)] [] M (f_Calendarhall_clearText O f v0 M) := by
  unfold f_Calendarhall_clearText
  refine xZ.adv (me := xm60) hP_60 1 (pc' := 1) (lv' := [(0, .ref v0)]) (st' := [.ref v0]) rfl ?_
  refine xZ.k_gR (me := xm60) hP_60 rfl (fun x1 => ?_)
  refine xZ.k_gJ (me := xm60) hP_60 rfl (fun x2 => ?_)
  refine xZ.adv (me := xm60) hP_60 2 (pc' := 9) (lv' := [(1, .int (yw x2)), (0, .ref v0)]) (st' := [.ref v0]) rfl ?_
  refine xZ.k_gR (me := xm60) hP_60 rfl (fun x3 => ?_)
  refine xZ.adv (me := xm60) hP_60 1 (pc' := 13) (lv' := [(1, .int (yw x2)), (0, .ref v0)]) (st' := [.int (0 : Int32), .ref x3]) rfl ?_
  refine xZ.eqs (lv2 := [(1, .int (yw x2)), (0, .ref v0)]) (st2 := [.int (yw 0), .ref x3]) rfl (by simp only [yl_lit, yL_lit, yw_add, yw_sub, yw_mul, yw_neg, yl_add, yl_sub, yl_mul, cj_and, cj_or, cj_xor, cj_shl, cj_shr, cj_ushr, cj_div, cj_i2c, cj_i2b, cj_dc, ck_and, ck_or, ck_xor, ck_shl, ck_shr, ck_ushr, ck_i2l, ck_l2i, ck_cmp]) ?_
  refine xZ.k_pJ (me := xm60) hP_60 rfl (fun M1 => ?_)
  refine xZ.adv (me := xm60) hP_60 1 (pc' := 17) (lv' := [(1, .int (yw x2)), (0, .ref v0)]) (st' := [.int (yw x2)]) rfl ?_
  exact xZ.jreti (me := xm60) hP_60 rfl rfl
def f_Reader_append (O : Nat → Option va_E) (f : Nat) (v0 : Nat) (v1 : Int) (M : xM) : Option (Unit × xM) :=
  (gJ O M v0 8 0).bind fun x1 =>
  if yw x1 < yw 0 then (
    some ((), M)
  ) else
  (gJ O M v0 8 0).bind fun x2 =>
  (gR O M v0 8 2).bind fun x3 =>
  (aJN O M x3).bind fun x4 =>
  if yw x2 < yw x4 then (
    (gR O M v0 8 2).bind fun x5 =>
    (gJ O M v0 8 0).bind fun x6 =>
    (wJC M x5 x6 (ji2c v1)).bind fun M1 =>
    (gJ O M1 v0 8 0).bind fun x7 =>
    (pJ M1 v0 8 0 (x7 + 1)).bind fun M2 =>
    some ((), M2)
  ) else
  some ((), M)
set_option maxRecDepth 20000 in
theorem k_f_Reader_append (O : Nat → Option va_E) (f d : Nat) (v0 : Nat) (v1 : Int) (M : xM) : xZ oU O (d + 0) 62 0 [(0, .ref v0), (1, .int (yw v1))] [] M (f_Reader_append O f v0 v1 M) := by
  unfold f_Reader_append
  refine xZ.adv (me := xm62) hP_62 1 (pc' := 1) (lv' := [(0, .ref v0), (1, .int (yw v1))]) (st' := [.ref v0]) rfl ?_
  refine xZ.k_gJ (me := xm62) hP_62 rfl (fun x1 => ?_)
  refine xZ.jf_lt (me := xm62) hP_62 rfl (fun h1 => ?_) (fun h1 => ?_)
  · skip
    exact xZ.retu (me := xm62) hP_62 rfl rfl
  · skip
    refine xZ.adv (me := xm62) hP_62 1 (pc' := 8) (lv' := [(0, .ref v0), (1, .int (yw v1))]) (st' := [.ref v0]) rfl ?_
    refine xZ.k_gJ (me := xm62) hP_62 rfl (fun x2 => ?_)
    refine xZ.adv (me := xm62) hP_62 1 (pc' := 12) (lv' := [(0, .ref v0), (1, .int (yw v1))]) (st' := [.ref v0, .int (yw x2)]) rfl ?_
    refine xZ.k_gR (me := xm62) hP_62 rfl (fun x3 => ?_)
    refine xZ.k_aJN (me := xm62) hP_62 rfl (fun x4 => ?_)
    refine xZ.jc_lt (me := xm62) hP_62 rfl (fun h2 => ?_) (fun h2 => ?_)
    · skip
      refine xZ.adv (me := xm62) hP_62 1 (pc' := 21) (lv' := [(0, .ref v0), (1, .int (yw v1))]) (st' := [.ref v0]) rfl ?_
      refine xZ.k_gR (me := xm62) hP_62 rfl (fun x5 => ?_)
      refine xZ.adv (me := xm62) hP_62 1 (pc' := 25) (lv' := [(0, .ref v0), (1, .int (yw v1))]) (st' := [.ref v0, .ref x5]) rfl ?_
      refine xZ.k_gJ (me := xm62) hP_62 rfl (fun x6 => ?_)
      refine xZ.adv (me := xm62) hP_62 2 (pc' := 30) (lv' := [(0, .ref v0), (1, .int (yw v1))]) (st' := [.int ((Int32.toUInt32 (yw v1) % 65536).toInt32), .int (yw x6), .ref x5]) rfl ?_
      refine xZ.eqs (lv2 := [(0, .ref v0), (1, .int (yw v1))]) (st2 := [.int (yw (ji2c v1)), .int (yw x6), .ref x5]) rfl (by simp only [yl_lit, yL_lit, yw_add, yw_sub, yw_mul, yw_neg, yl_add, yl_sub, yl_mul, cj_and, cj_or, cj_xor, cj_shl, cj_shr, cj_ushr, cj_div, cj_i2c, cj_i2b, cj_dc, ck_and, ck_or, ck_xor, ck_shl, ck_shr, ck_ushr, ck_i2l, ck_l2i, ck_cmp]) ?_
      refine xZ.k_wJC (me := xm62) hP_62 rfl (fun M1 => ?_)
      refine xZ.adv (me := xm62) hP_62 2 (pc' := 33) (lv' := [(0, .ref v0), (1, .int (yw v1))]) (st' := [.ref v0, .ref v0]) rfl ?_
      refine xZ.k_gJ (me := xm62) hP_62 rfl (fun x7 => ?_)
      refine xZ.adv (me := xm62) hP_62 2 (pc' := 38) (lv' := [(0, .ref v0), (1, .int (yw v1))]) (st' := [.int ((yw x7) + (1 : Int32)), .ref v0]) rfl ?_
      refine xZ.eqs (lv2 := [(0, .ref v0), (1, .int (yw v1))]) (st2 := [.int (yw (x7 + 1)), .ref v0]) rfl (by simp only [yl_lit, yL_lit, yw_add, yw_sub, yw_mul, yw_neg, yl_add, yl_sub, yl_mul, cj_and, cj_or, cj_xor, cj_shl, cj_shr, cj_ushr, cj_div, cj_i2c, cj_i2b, cj_dc, ck_and, ck_or, ck_xor, ck_shl, ck_shr, ck_ushr, ck_i2l, ck_l2i, ck_cmp]) ?_
      refine xZ.k_pJ (me := xm62) hP_62 rfl (fun M2 => ?_)
      exact xZ.retu (me := xm62) hP_62 rfl rfl
    · skip
      exact xZ.retu (me := xm62) hP_62 rfl rfl
def f_Calendarhall_type_60 (O : Nat → Option va_E) (f : Nat) : Nat → Nat → Int → Int → xM → Option (Int × xM)
  | 0, _, _, _, _ => none
  | n + 1, v0, v1, v4, M =>
    if yw v4 < yw 0 then (
      (gR O M v0 12 7).bind fun x1 =>
      (gJ O M x1 8 0).bind fun x2 =>
      some (x2, M)
    ) else
    xlet (kand (kushr v1 (ki2l v4)) 255) fun x3 =>
    if yw x3 = yw 0 then (
      f_Calendarhall_type_60 O f n v0 v1 (v4 + (-8)) M
    ) else
    (gR O M v0 12 7).bind fun x4 =>
    (isO O M x4 8).bind fun _ =>
    xcl (f_Reader_append O f x4 x3 M) fun _ M1 =>
    f_Calendarhall_type_60 O f n v0 v1 (v4 + (-8)) M1
set_option maxRecDepth 20000 in
theorem k_f_Calendarhall_type_60 (O : Nat → Option va_E) (f d : Nat) : ∀ (n : Nat) (v0 : Nat) (v1 : Int) (v4 : Int) (M : xM), xZ oJ O (d + 1) 61 60 [(0, .ref v0), (1, .long (yl v1)), (4, .int (yw v4))] [] M (f_Calendarhall_type_60 O f n v0 v1 v4 M) := by
  intro n
  induction n with
  | zero =>
    intro v0 v1 v4 M
    exact xZ.no
  | succ n ih =>
    intro v0 v1 v4 M
    unfold f_Calendarhall_type_60
    refine xZ.adv (me := xm61) hP_61 1 (pc' := 62) (lv' := [(0, .ref v0), (1, .long (yl v1)), (4, .int (yw v4))]) (st' := [.int (yw v4)]) rfl ?_
    refine xZ.jf_lt (me := xm61) hP_61 rfl (fun h1 => ?_) (fun h1 => ?_)
    · skip
      refine xZ.adv (me := xm61) hP_61 1 (pc' := 97) (lv' := [(0, .ref v0), (1, .long (yl v1)), (4, .int (yw v4))]) (st' := [.ref v0]) rfl ?_
      refine xZ.k_gR (me := xm61) hP_61 rfl (fun x1 => ?_)
      refine xZ.k_gJ (me := xm61) hP_61 rfl (fun x2 => ?_)
      exact xZ.jreti (me := xm61) hP_61 rfl rfl
    · skip
      refine xZ.adv (me := xm61) hP_61 7 (pc' := 76) (lv' := [(5, .int (Int64.toInt32 ((Int64.toUInt64 (yl v1) >>> ((Int32.toInt64 (yw v4)).toUInt64 &&& Int64.toUInt64 63)).toInt64 &&& (255 : Int64)))), (0, .ref v0), (1, .long (yl v1)), (4, .int (yw v4))]) (st' := []) rfl ?_
      refine xZ.eqs (lv2 := [(5, .int (yw (kand (kushr v1 (ki2l v4)) 255))), (0, .ref v0), (1, .long (yl v1)), (4, .int (yw v4))]) (st2 := []) (by simp only [yl_lit, yL_lit, yw_add, yw_sub, yw_mul, yw_neg, yl_add, yl_sub, yl_mul, cj_and, cj_or, cj_xor, cj_shl, cj_shr, cj_ushr, cj_div, cj_i2c, cj_i2b, cj_dc, ck_and, ck_or, ck_xor, ck_shl, ck_shr, ck_ushr, ck_i2l, ck_l2i, ck_cmp]) rfl ?_
      refine xZ.letI (v := (kand (kushr v1 (ki2l v4)) 255)) (lvf := fun x3 => [(5, .int (yw x3)), (0, .ref v0), (1, .long (yl v1)), (4, .int (yw v4))]) (stf := fun x3 => []) ?_
      intro x3
      refine xZ.adv (me := xm61) hP_61 1 (pc' := 78) (lv' := [(5, .int (yw x3)), (0, .ref v0), (1, .long (yl v1)), (4, .int (yw v4))]) (st' := [.int (yw x3)]) rfl ?_
      refine xZ.jf_eq (me := xm61) hP_61 rfl (fun h2 => ?_) (fun h2 => ?_)
      · skip
        refine xZ.adv (me := xm61) hP_61 2 (pc' := 60) (lv' := [(4, .int ((yw v4) + (-8 : Int32))), (5, .int (yw x3)), (0, .ref v0), (1, .long (yl v1))]) (st' := []) rfl ?_
        refine xZ.eqs (lv2 := [(4, .int (yw (v4 + (-8)))), (5, .int (yw x3)), (0, .ref v0), (1, .long (yl v1))]) (st2 := []) (by simp only [yl_lit, yL_lit, yw_add, yw_sub, yw_mul, yw_neg, yl_add, yl_sub, yl_mul, cj_and, cj_or, cj_xor, cj_shl, cj_shr, cj_ushr, cj_div, cj_i2c, cj_i2b, cj_dc, ck_and, ck_or, ck_xor, ck_shl, ck_shr, ck_ushr, ck_i2l, ck_l2i, ck_cmp]) rfl ?_
        exact xZ.sub (xsc (.tail _ (.tail _ (.head _))) (xsc (.tail _ (.tail _ (.tail _ (.head _)))) (xsc (.head _) xsn))) (show ([4, 5, 0, 1] : List Nat).Nodup from by decide) (ih v0 v1 (v4 + (-8)) M)
      · skip
        refine xZ.adv (me := xm61) hP_61 1 (pc' := 82) (lv' := [(5, .int (yw x3)), (0, .ref v0), (1, .long (yl v1)), (4, .int (yw v4))]) (st' := [.ref v0]) rfl ?_
        refine xZ.k_gR (me := xm61) hP_61 rfl (fun x4 => ?_)
        refine xZ.adv (me := xm61) hP_61 1 (pc' := 87) (lv' := [(5, .int (yw x3)), (0, .ref v0), (1, .long (yl v1)), (4, .int (yw v4))]) (st' := [.int (yw x3), .ref x4]) rfl ?_
        refine xZ.callv (κ := oU) (av := [.int (yw x3)]) (rest := []) (st' := fun _ => []) (k0 := x4) (me := xm61) hP_61 rfl (Or.inl rfl) ⟨rfl, by decide⟩ rfl rfl (Nat.le_of_ble_eq_true rfl) (by decide) hP_62 (Nat.le_of_ble_eq_true rfl) (fun _ => rfl) (k_f_Reader_append O f (d + 0) x4 x3 M) (fun _ M1 => ?_)
        refine xZ.adv (me := xm61) hP_61 2 (pc' := 60) (lv' := [(4, .int ((yw v4) + (-8 : Int32))), (5, .int (yw x3)), (0, .ref v0), (1, .long (yl v1))]) (st' := []) rfl ?_
        refine xZ.eqs (lv2 := [(4, .int (yw (v4 + (-8)))), (5, .int (yw x3)), (0, .ref v0), (1, .long (yl v1))]) (st2 := []) (by simp only [yl_lit, yL_lit, yw_add, yw_sub, yw_mul, yw_neg, yl_add, yl_sub, yl_mul, cj_and, cj_or, cj_xor, cj_shl, cj_shr, cj_ushr, cj_div, cj_i2c, cj_i2b, cj_dc, ck_and, ck_or, ck_xor, ck_shl, ck_shr, ck_ushr, ck_i2l, ck_l2i, ck_cmp]) rfl ?_
        exact xZ.sub (xsc (.tail _ (.tail _ (.head _))) (xsc (.tail _ (.tail _ (.tail _ (.head _)))) (xsc (.head _) xsn))) (show ([4, 5, 0, 1] : List Nat).Nodup from by decide) (ih v0 v1 (v4 + (-8)) M1)
def f_Calendarhall_type_5 (O : Nat → Option va_E) (f : Nat) : Nat → Nat → Int → Int → Int → xM → Option (Int × xM)
  | 0, _, _, _, _, _ => none
  | n + 1, v0, v1, v3, v4, M =>
    if yw 64 ≤ yw v4 then (
      (gR O M v0 12 7).bind fun x1 =>
      (gJ O M x1 8 0).bind fun x2 =>
      if yw (x2 + v3) ≤ yw 120 then (
        f_Calendarhall_type_60 O f f v0 v1 56 M
      ) else
      none
    ) else
    if yw (kcmp (kand (kushr v1 (ki2l v4)) 255) 0) = yw 0 then (
      f_Calendarhall_type_5 O f n v0 v1 v3 (v4 + 8) M
    ) else
    f_Calendarhall_type_5 O f n v0 v1 (v3 + 1) (v4 + 8) M
set_option maxRecDepth 20000 in
theorem k_f_Calendarhall_type_5 (O : Nat → Option va_E) (f d : Nat) : ∀ (n : Nat) (v0 : Nat) (v1 : Int) (v3 : Int) (v4 : Int) (M : xM), xZ oJ O (d + 1) 61 5 [(0, .ref v0), (1, .long (yl v1)), (3, .int (yw v3)), (4, .int (yw v4))] [] M (f_Calendarhall_type_5 O f n v0 v1 v3 v4 M) := by
  intro n
  induction n with
  | zero =>
    intro v0 v1 v3 v4 M
    exact xZ.no
  | succ n ih =>
    intro v0 v1 v3 v4 M
    unfold f_Calendarhall_type_5
    refine xZ.adv (me := xm61) hP_61 2 (pc' := 9) (lv' := [(0, .ref v0), (1, .long (yl v1)), (3, .int (yw v3)), (4, .int (yw v4))]) (st' := [.int (64 : Int32), .int (yw v4)]) rfl ?_
    refine xZ.eqs (lv2 := [(0, .ref v0), (1, .long (yl v1)), (3, .int (yw v3)), (4, .int (yw v4))]) (st2 := [.int (yw 64), .int (yw v4)]) rfl (by simp only [yl_lit, yL_lit, yw_add, yw_sub, yw_mul, yw_neg, yl_add, yl_sub, yl_mul, cj_and, cj_or, cj_xor, cj_shl, cj_shr, cj_ushr, cj_div, cj_i2c, cj_i2b, cj_dc, ck_and, ck_or, ck_xor, ck_shl, ck_shr, ck_ushr, ck_i2l, ck_l2i, ck_cmp]) ?_
    refine xZ.jc_ge (me := xm61) hP_61 rfl (fun h1 => ?_) (fun h1 => ?_)
    · skip
      refine xZ.adv (me := xm61) hP_61 1 (pc' := 35) (lv' := [(0, .ref v0), (1, .long (yl v1)), (3, .int (yw v3)), (4, .int (yw v4))]) (st' := [.ref v0]) rfl ?_
      refine xZ.k_gR (me := xm61) hP_61 rfl (fun x1 => ?_)
      refine xZ.k_gJ (me := xm61) hP_61 rfl (fun x2 => ?_)
      refine xZ.adv (me := xm61) hP_61 3 (pc' := 45) (lv' := [(0, .ref v0), (1, .long (yl v1)), (3, .int (yw v3)), (4, .int (yw v4))]) (st' := [.int (120 : Int32), .int ((yw x2) + (yw v3))]) rfl ?_
      refine xZ.eqs (lv2 := [(0, .ref v0), (1, .long (yl v1)), (3, .int (yw v3)), (4, .int (yw v4))]) (st2 := [.int (yw 120), .int (yw (x2 + v3))]) rfl (by simp only [yl_lit, yL_lit, yw_add, yw_sub, yw_mul, yw_neg, yl_add, yl_sub, yl_mul, cj_and, cj_or, cj_xor, cj_shl, cj_shr, cj_ushr, cj_div, cj_i2c, cj_i2b, cj_dc, ck_and, ck_or, ck_xor, ck_shl, ck_shr, ck_ushr, ck_i2l, ck_l2i, ck_cmp]) ?_
      refine xZ.jc_le (me := xm61) hP_61 rfl (fun h2 => ?_) (fun h2 => ?_)
      · skip
        refine xZ.adv (me := xm61) hP_61 2 (pc' := 60) (lv' := [(4, .int (56 : Int32)), (0, .ref v0), (1, .long (yl v1)), (3, .int (yw v3))]) (st' := []) rfl ?_
        refine xZ.eqs (lv2 := [(4, .int (yw 56)), (0, .ref v0), (1, .long (yl v1)), (3, .int (yw v3))]) (st2 := []) (by simp only [yl_lit, yL_lit, yw_add, yw_sub, yw_mul, yw_neg, yl_add, yl_sub, yl_mul, cj_and, cj_or, cj_xor, cj_shl, cj_shr, cj_ushr, cj_div, cj_i2c, cj_i2b, cj_dc, ck_and, ck_or, ck_xor, ck_shl, ck_shr, ck_ushr, ck_i2l, ck_l2i, ck_cmp]) rfl ?_
        exact xZ.sub (xsc (.tail _ (.head _)) (xsc (.tail _ (.tail _ (.head _))) (xsc (.head _) xsn))) (show ([4, 0, 1, 3] : List Nat).Nodup from by decide) (k_f_Calendarhall_type_60 O f d f v0 v1 56 M)
      · skip
        exact xZ.no
    · skip
      refine xZ.adv (me := xm61) hP_61 7 (pc' := 22) (lv' := [(0, .ref v0), (1, .long (yl v1)), (3, .int (yw v3)), (4, .int (yw v4))]) (st' := [.int (lg_cmp ((Int64.toUInt64 (yl v1) >>> ((Int32.toInt64 (yw v4)).toUInt64 &&& Int64.toUInt64 63)).toInt64 &&& (255 : Int64)) (0 : Int64))]) rfl ?_
      refine xZ.eqs (lv2 := [(0, .ref v0), (1, .long (yl v1)), (3, .int (yw v3)), (4, .int (yw v4))]) (st2 := [.int (yw (kcmp (kand (kushr v1 (ki2l v4)) 255) 0))]) rfl (by simp only [yl_lit, yL_lit, yw_add, yw_sub, yw_mul, yw_neg, yl_add, yl_sub, yl_mul, cj_and, cj_or, cj_xor, cj_shl, cj_shr, cj_ushr, cj_div, cj_i2c, cj_i2b, cj_dc, ck_and, ck_or, ck_xor, ck_shl, ck_shr, ck_ushr, ck_i2l, ck_l2i, ck_cmp]) ?_
      refine xZ.jf_eq (me := xm61) hP_61 rfl (fun h3 => ?_) (fun h3 => ?_)
      · skip
        refine xZ.adv (me := xm61) hP_61 2 (pc' := 5) (lv' := [(4, .int ((yw v4) + (8 : Int32))), (0, .ref v0), (1, .long (yl v1)), (3, .int (yw v3))]) (st' := []) rfl ?_
        refine xZ.eqs (lv2 := [(4, .int (yw (v4 + 8))), (0, .ref v0), (1, .long (yl v1)), (3, .int (yw v3))]) (st2 := []) (by simp only [yl_lit, yL_lit, yw_add, yw_sub, yw_mul, yw_neg, yl_add, yl_sub, yl_mul, cj_and, cj_or, cj_xor, cj_shl, cj_shr, cj_ushr, cj_div, cj_i2c, cj_i2b, cj_dc, ck_and, ck_or, ck_xor, ck_shl, ck_shr, ck_ushr, ck_i2l, ck_l2i, ck_cmp]) rfl ?_
        exact xZ.sub (xsc (.tail _ (.head _)) (xsc (.tail _ (.tail _ (.head _))) (xsc (.tail _ (.tail _ (.tail _ (.head _)))) (xsc (.head _) xsn)))) (show ([4, 0, 1, 3] : List Nat).Nodup from by decide) (ih v0 v1 v3 (v4 + 8) M)
      · skip
        refine xZ.adv (me := xm61) hP_61 3 (pc' := 5) (lv' := [(4, .int ((yw v4) + (8 : Int32))), (3, .int ((yw v3) + (1 : Int32))), (0, .ref v0), (1, .long (yl v1))]) (st' := []) rfl ?_
        refine xZ.eqs (lv2 := [(4, .int (yw (v4 + 8))), (3, .int (yw (v3 + 1))), (0, .ref v0), (1, .long (yl v1))]) (st2 := []) (by simp only [yl_lit, yL_lit, yw_add, yw_sub, yw_mul, yw_neg, yl_add, yl_sub, yl_mul, cj_and, cj_or, cj_xor, cj_shl, cj_shr, cj_ushr, cj_div, cj_i2c, cj_i2b, cj_dc, ck_and, ck_or, ck_xor, ck_shl, ck_shr, ck_ushr, ck_i2l, ck_l2i, ck_cmp]) rfl ?_
        exact xZ.sub (xsc (.tail _ (.tail _ (.head _))) (xsc (.tail _ (.tail _ (.tail _ (.head _)))) (xsc (.tail _ (.head _)) (xsc (.head _) xsn)))) (show ([4, 3, 0, 1] : List Nat).Nodup from by decide) (ih v0 v1 (v3 + 1) (v4 + 8) M)
def f_Calendarhall_type (O : Nat → Option va_E) (f : Nat) (v0 : Nat) (v1 : Int) (M : xM) : Option (Int × xM) :=
  f_Calendarhall_type_5 O f f v0 v1 0 0 M
set_option maxRecDepth 20000 in
theorem k_f_Calendarhall_type (O : Nat → Option va_E) (f d : Nat) (v0 : Nat) (v1 : Int) (M : xM) : xZ oJ O (d + 1) 61 0 [(0, .ref v0), (1, .long (yl v1))] [] M (f_Calendarhall_type O f v0 v1 M) := by
  unfold f_Calendarhall_type
  refine xZ.adv (me := xm61) hP_61 4 (pc' := 5) (lv' := [(4, .int (0 : Int32)), (3, .int (0 : Int32)), (0, .ref v0), (1, .long (yl v1))]) (st' := []) rfl ?_
  refine xZ.eqs (lv2 := [(4, .int (yw 0)), (3, .int (yw 0)), (0, .ref v0), (1, .long (yl v1))]) (st2 := []) (by simp only [yl_lit, yL_lit, yw_add, yw_sub, yw_mul, yw_neg, yl_add, yl_sub, yl_mul, cj_and, cj_or, cj_xor, cj_shl, cj_shr, cj_ushr, cj_div, cj_i2c, cj_i2b, cj_dc, ck_and, ck_or, ck_xor, ck_shl, ck_shr, ck_ushr, ck_i2l, ck_l2i, ck_cmp]) rfl ?_
  exact xZ.sub (xsc (.tail _ (.tail _ (.head _))) (xsc (.tail _ (.tail _ (.tail _ (.head _)))) (xsc (.tail _ (.head _)) (xsc (.head _) xsn)))) (show ([4, 3, 0, 1] : List Nat).Nodup from by decide) (k_f_Calendarhall_type_5 O f d f v0 v1 0 0 M)
def f_String_isLatin1 (O : Nat → Option va_E) (f : Nat) (v0 : Nat) (M : xM) : Option (Int × xM) :=
  if yw 1 = yw 0 then (
    some (0, M)
  ) else
  (gJ O M v0 0 1).bind fun x1 =>
  if yw x1 = yw 0 then (
    some (1, M)
  ) else
  some (0, M)
set_option maxRecDepth 20000 in
theorem k_f_String_isLatin1 (O : Nat → Option va_E) (f d : Nat) (v0 : Nat) (M : xM) : xZ oJ O (d + 0) 290 0 [(0, .ref v0)] [] M (f_String_isLatin1 O f v0 M) := by
  unfold f_String_isLatin1
  refine xZ.adv (me := xm290) hP_290 1 (pc' := 3) (lv' := [(0, .ref v0)]) (st' := [.int (1 : Int32)]) rfl ?_
  refine xZ.eqs (lv2 := [(0, .ref v0)]) (st2 := [.int (yw 1)]) rfl (by simp only [yl_lit, yL_lit, yw_add, yw_sub, yw_mul, yw_neg, yl_add, yl_sub, yl_mul, cj_and, cj_or, cj_xor, cj_shl, cj_shr, cj_ushr, cj_div, cj_i2c, cj_i2b, cj_dc, ck_and, ck_or, ck_xor, ck_shl, ck_shr, ck_ushr, ck_i2l, ck_l2i, ck_cmp]) ?_
  refine xZ.jf_eq (me := xm290) hP_290 rfl (fun h1 => ?_) (fun h1 => ?_)
  · skip
    refine xZ.adv (me := xm290) hP_290 1 (pc' := 18) (lv' := [(0, .ref v0)]) (st' := [.int (0 : Int32)]) rfl ?_
    refine xZ.eqs (lv2 := [(0, .ref v0)]) (st2 := [.int (yw 0)]) rfl (by simp only [yl_lit, yL_lit, yw_add, yw_sub, yw_mul, yw_neg, yl_add, yl_sub, yl_mul, cj_and, cj_or, cj_xor, cj_shl, cj_shr, cj_ushr, cj_div, cj_i2c, cj_i2b, cj_dc, ck_and, ck_or, ck_xor, ck_shl, ck_shr, ck_ushr, ck_i2l, ck_l2i, ck_cmp]) ?_
    exact xZ.jrete (me := xm290) hP_290 rfl rfl rfl
  · skip
    refine xZ.adv (me := xm290) hP_290 1 (pc' := 7) (lv' := [(0, .ref v0)]) (st' := [.ref v0]) rfl ?_
    refine xZ.k_gJ (me := xm290) hP_290 rfl (fun x1 => ?_)
    refine xZ.jf_ne (me := xm290) hP_290 rfl (fun h2 => ?_) (fun h2 => ?_)
    · skip
      refine xZ.adv (me := xm290) hP_290 2 (pc' := 18) (lv' := [(0, .ref v0)]) (st' := [.int (1 : Int32)]) rfl ?_
      refine xZ.eqs (lv2 := [(0, .ref v0)]) (st2 := [.int (yw 1)]) rfl (by simp only [yl_lit, yL_lit, yw_add, yw_sub, yw_mul, yw_neg, yl_add, yl_sub, yl_mul, cj_and, cj_or, cj_xor, cj_shl, cj_shr, cj_ushr, cj_div, cj_i2c, cj_i2b, cj_dc, ck_and, ck_or, ck_xor, ck_shl, ck_shr, ck_ushr, ck_i2l, ck_l2i, ck_cmp]) ?_
      exact xZ.jrete (me := xm290) hP_290 rfl rfl rfl
    · skip
      refine xZ.adv (me := xm290) hP_290 1 (pc' := 18) (lv' := [(0, .ref v0)]) (st' := [.int (0 : Int32)]) rfl ?_
      refine xZ.eqs (lv2 := [(0, .ref v0)]) (st2 := [.int (yw 0)]) rfl (by simp only [yl_lit, yL_lit, yw_add, yw_sub, yw_mul, yw_neg, yl_add, yl_sub, yl_mul, cj_and, cj_or, cj_xor, cj_shl, cj_shr, cj_ushr, cj_div, cj_i2c, cj_i2b, cj_dc, ck_and, ck_or, ck_xor, ck_shl, ck_shr, ck_ushr, ck_i2l, ck_l2i, ck_cmp]) ?_
      exact xZ.jrete (me := xm290) hP_290 rfl rfl rfl
def f_Preconditions_checkIndex (O : Nat → Option va_E) (f : Nat) (v0 : Int) (v1 : Int) (M : xM) : Option (Int × xM) :=
  if yw v0 < yw 0 then (
    none
  ) else
  if yw v0 < yw v1 then (
    some (v0, M)
  ) else
  none
set_option maxRecDepth 20000 in
theorem k_f_Preconditions_checkIndex (O : Nat → Option va_E) (f d : Nat) (v0 : Int) (v1 : Int) (M : xM) : xZ oJ O (d + 0) 293 0 [(0, .int (yw v0)), (1, .int (yw v1)), (2, .float 7)] [] M (f_Preconditions_checkIndex O f v0 v1 M) := by
  unfold f_Preconditions_checkIndex
  refine xZ.adv (me := xm293) hP_293 1 (pc' := 1) (lv' := [(0, .int (yw v0)), (1, .int (yw v1)), (2, .float 7)]) (st' := [.int (yw v0)]) rfl ?_
  refine xZ.jf_lt (me := xm293) hP_293 rfl (fun h1 => ?_) (fun h1 => ?_)
  · skip
    exact xZ.no
  · skip
    refine xZ.adv (me := xm293) hP_293 2 (pc' := 6) (lv' := [(0, .int (yw v0)), (1, .int (yw v1)), (2, .float 7)]) (st' := [.int (yw v1), .int (yw v0)]) rfl ?_
    refine xZ.jc_lt (me := xm293) hP_293 rfl (fun h2 => ?_) (fun h2 => ?_)
    · skip
      refine xZ.adv (me := xm293) hP_293 1 (pc' := 17) (lv' := [(0, .int (yw v0)), (1, .int (yw v1)), (2, .float 7)]) (st' := [.int (yw v0)]) rfl ?_
      exact xZ.jreti (me := xm293) hP_293 rfl rfl
    · skip
      exact xZ.no
def f_String_checkIndex (O : Nat → Option va_E) (f : Nat) (v0 : Int) (v1 : Int) (M : xM) : Option (Unit × xM) :=
  xcl (f_Preconditions_checkIndex O f v0 v1 M) fun x1 M1 =>
  some ((), M1)
set_option maxRecDepth 20000 in
theorem k_f_String_checkIndex (O : Nat → Option va_E) (f d : Nat) (v0 : Int) (v1 : Int) (M : xM) : xZ oU O (d + 1) 292 0 [(0, .int (yw v0)), (1, .int (yw v1))] [] M (f_String_checkIndex O f v0 v1 M) := by
  unfold f_String_checkIndex
  refine xZ.adv (me := xm292) hP_292 3 (pc' := 5) (lv' := [(0, .int (yw v0)), (1, .int (yw v1))]) (st' := [.float 7, .int (yw v1), .int (yw v0)]) rfl ?_
  refine xZ.calls (κ := oJ) (av := [.int (yw v0), .int (yw v1), .float 7]) (rest := []) (st' := fun x1 => [.int (yw x1)]) (me := xm292) hP_292 rfl rfl rfl (Nat.le_of_ble_eq_true rfl) (by decide) hP_293 (Nat.le_of_ble_eq_true rfl) (fun _ => rfl) (k_f_Preconditions_checkIndex O f (d + 0) v0 v1 M) (fun x1 M1 => ?_)
  refine xZ.adv (me := xm292) hP_292 1 (pc' := 9) (lv' := [(0, .int (yw v0)), (1, .int (yw v1))]) (st' := []) rfl ?_
  exact xZ.retu (me := xm292) hP_292 rfl rfl
def f_StringLatin1_charAt (O : Nat → Option va_E) (f : Nat) (v0 : Nat) (v1 : Int) (M : xM) : Option (Int × xM) :=
  (aJN O M v0).bind fun x1 =>
  xcl (f_String_checkIndex O f v1 x1 M) fun _ M1 =>
  (aJB O M1 v0 v1).bind fun x3 =>
  if xfit .char (.int (yw (ji2c (jand x3 255)))) = true then some ((ji2c (jand x3 255)), M1) else none
set_option maxRecDepth 20000 in
theorem k_f_StringLatin1_charAt (O : Nat → Option va_E) (f d : Nat) (v0 : Nat) (v1 : Int) (M : xM) : xZ oJ O (d + 2) 291 0 [(0, .ref v0), (1, .int (yw v1))] [] M (f_StringLatin1_charAt O f v0 v1 M) := by
  unfold f_StringLatin1_charAt
  refine xZ.adv (me := xm291) hP_291 2 (pc' := 2) (lv' := [(0, .ref v0), (1, .int (yw v1))]) (st' := [.ref v0, .int (yw v1)]) rfl ?_
  refine xZ.k_aJN (me := xm291) hP_291 rfl (fun x1 => ?_)
  refine xZ.calls (κ := oU) (av := [.int (yw v1), .int (yw x1)]) (rest := []) (st' := fun _ => []) (me := xm291) hP_291 rfl rfl rfl (Nat.le_of_ble_eq_true rfl) (by decide) hP_292 (Nat.le_of_ble_eq_true rfl) (fun _ => rfl) (k_f_String_checkIndex O f (d + 0) v1 x1 M) (fun _ M1 => ?_)
  refine xZ.adv (me := xm291) hP_291 2 (pc' := 8) (lv' := [(0, .ref v0), (1, .int (yw v1))]) (st' := [.int (yw v1), .ref v0]) rfl ?_
  refine xZ.k_aJB (me := xm291) hP_291 rfl (fun x3 => ?_)
  refine xZ.adv (me := xm291) hP_291 3 (pc' := 14) (lv' := [(0, .ref v0), (1, .int (yw v1))]) (st' := [.int ((Int32.toUInt32 ((yw x3) &&& (255 : Int32)) % 65536).toInt32)]) rfl ?_
  refine xZ.eqs (lv2 := [(0, .ref v0), (1, .int (yw v1))]) (st2 := [.int (yw (ji2c (jand x3 255)))]) rfl (by simp only [yl_lit, yL_lit, yw_add, yw_sub, yw_mul, yw_neg, yl_add, yl_sub, yl_mul, cj_and, cj_or, cj_xor, cj_shl, cj_shr, cj_ushr, cj_div, cj_i2c, cj_i2b, cj_dc, ck_and, ck_or, ck_xor, ck_shl, ck_shr, ck_ushr, ck_i2l, ck_l2i, ck_cmp]) ?_
  exact xZ.jretf (me := xm291) hP_291 rfl rfl
def f_String_charAt (O : Nat → Option va_E) (f : Nat) (v0 : Nat) (v1 : Int) (M : xM) : Option (Int × xM) :=
  (isO O M v0 0).bind fun _ =>
  xcl (f_String_isLatin1 O f v0 M) fun x1 M1 =>
  if yw x1 = yw 0 then (
    (gR O M1 v0 0 0).bind fun x2 =>
    none
  ) else
  (gR O M1 v0 0 0).bind fun x3 =>
  xcl (f_StringLatin1_charAt O f x3 v1 M1) fun x4 M2 =>
  if xfit .char (.int (yw x4)) = true then some (x4, M2) else none
set_option maxRecDepth 20000 in
theorem k_f_String_charAt (O : Nat → Option va_E) (f d : Nat) (v0 : Nat) (v1 : Int) (M : xM) : xZ oJ O (d + 3) 289 0 [(0, .ref v0), (1, .int (yw v1))] [] M (f_String_charAt O f v0 v1 M) := by
  unfold f_String_charAt
  refine xZ.adv (me := xm289) hP_289 1 (pc' := 1) (lv' := [(0, .ref v0), (1, .int (yw v1))]) (st' := [.ref v0]) rfl ?_
  refine xZ.callv (κ := oJ) (av := []) (rest := []) (st' := fun x1 => [.int (yw x1)]) (k0 := v0) (me := xm289) hP_289 rfl (Or.inl rfl) ⟨rfl, by decide⟩ rfl rfl (Nat.le_of_ble_eq_true rfl) (by decide) hP_290 (Nat.le_of_ble_eq_true rfl) (fun _ => rfl) (k_f_String_isLatin1 O f (d + 2) v0 M) (fun x1 M1 => ?_)
  refine xZ.jf_eq (me := xm289) hP_289 rfl (fun h1 => ?_) (fun h1 => ?_)
  · skip
    refine xZ.adv (me := xm289) hP_289 1 (pc' := 17) (lv' := [(0, .ref v0), (1, .int (yw v1))]) (st' := [.ref v0]) rfl ?_
    refine xZ.k_gR (me := xm289) hP_289 rfl (fun x2 => ?_)
    refine xZ.adv (me := xm289) hP_289 1 (pc' := 21) (lv' := [(0, .ref v0), (1, .int (yw v1))]) (st' := [.int (yw v1), .ref x2]) rfl ?_
    exact xZ.no
  · skip
    refine xZ.adv (me := xm289) hP_289 1 (pc' := 8) (lv' := [(0, .ref v0), (1, .int (yw v1))]) (st' := [.ref v0]) rfl ?_
    refine xZ.k_gR (me := xm289) hP_289 rfl (fun x3 => ?_)
    refine xZ.adv (me := xm289) hP_289 1 (pc' := 12) (lv' := [(0, .ref v0), (1, .int (yw v1))]) (st' := [.int (yw v1), .ref x3]) rfl ?_
    refine xZ.calls (κ := oJ) (av := [.ref x3, .int (yw v1)]) (rest := []) (st' := fun x4 => [.int (yw x4)]) (me := xm289) hP_289 rfl rfl rfl (Nat.le_of_ble_eq_true rfl) (by decide) hP_291 (Nat.le_of_ble_eq_true rfl) (fun _ => rfl) (k_f_StringLatin1_charAt O f (d + 0) x3 v1 M1) (fun x4 M2 => ?_)
    exact xZ.jretf (me := xm289) hP_289 rfl rfl
def f_Law_type_53 (O : Nat → Option va_E) (f : Nat) (K20 : Nat → Nat → Int → Int → Int → xM → Option (Unit × xM)) (v0 : Nat) (v1 : Nat) (v2 : Int) (v5 : Int) (s0 : Int) (s1 : Int) (M : xM) : Option (Unit × xM) :=
  K20 v0 v1 v2 (kor s0 s1) (v5 + 1) M
set_option maxRecDepth 20000 in
theorem k_f_Law_type_53 (O : Nat → Option va_E) (f d : Nat) (K20 : Nat → Nat → Int → Int → Int → xM → Option (Unit × xM)) (hK20 : ∀ (v0 : Nat) (v1 : Nat) (v2 : Int) (v3 : Int) (v5 : Int) M, xZ oU O (d + 4) 59 20 [(0, .ref v0), (1, .ref v1), (2, .int (yw v2)), (3, .long (yl v3)), (5, .int (yw v5))] [] M (K20 v0 v1 v2 v3 v5 M)) (v0 : Nat) (v1 : Nat) (v2 : Int) (v5 : Int) (s0 : Int) (s1 : Int) (M : xM) : xZ oU O (d + 4) 59 53 [(0, .ref v0), (1, .ref v1), (2, .int (yw v2)), (5, .int (yw v5))] [.long (yl s1), .long (yl s0)] M (f_Law_type_53 O f K20 v0 v1 v2 v5 s0 s1 M) := by
  unfold f_Law_type_53
  refine xZ.adv (me := xm59) hP_59 4 (pc' := 20) (lv' := [(5, .int ((yw v5) + (1 : Int32))), (3, .long ((yl s0) ||| (yl s1))), (0, .ref v0), (1, .ref v1), (2, .int (yw v2))]) (st' := []) rfl ?_
  refine xZ.eqs (lv2 := [(5, .int (yw (v5 + 1))), (3, .long (yl (kor s0 s1))), (0, .ref v0), (1, .ref v1), (2, .int (yw v2))]) (st2 := []) (by simp only [yl_lit, yL_lit, yw_add, yw_sub, yw_mul, yw_neg, yl_add, yl_sub, yl_mul, cj_and, cj_or, cj_xor, cj_shl, cj_shr, cj_ushr, cj_div, cj_i2c, cj_i2b, cj_dc, ck_and, ck_or, ck_xor, ck_shl, ck_shr, ck_ushr, ck_i2l, ck_l2i, ck_cmp]) rfl ?_
  exact xZ.sub (xsc (.tail _ (.tail _ (.head _))) (xsc (.tail _ (.tail _ (.tail _ (.head _)))) (xsc (.tail _ (.tail _ (.tail _ (.tail _ (.head _))))) (xsc (.tail _ (.head _)) (xsc (.head _) xsn))))) (show ([5, 3, 0, 1, 2] : List Nat).Nodup from by decide) (hK20 v0 v1 v2 (kor s0 s1) (v5 + 1) M)
def f_Law_type_20 (O : Nat → Option va_E) (f : Nat) (K7 : Nat → Nat → Int → xM → Option (Unit × xM)) : Nat → Nat → Nat → Int → Int → Int → xM → Option (Unit × xM)
  | 0, _, _, _, _, _, _ => none
  | n + 1, v0, v1, v2, v3, v5, M =>
    if yw (v2 + 8) ≤ yw v5 then (
      (isO O M v0 12).bind fun _ =>
      xcl (f_Calendarhall_type O f v0 v3 M) fun x1 M1 =>
      K7 v0 v1 (v2 + 8) M1
    ) else
    (isO O M v1 0).bind fun _ =>
    xcl (f_String_length O f v1 M) fun x2 M2 =>
    if yw x2 ≤ yw v5 then (
      f_Law_type_53 O f (f_Law_type_20 O f K7 n) v0 v1 v2 v5 (kshl v3 (kand (ki2l 8) 63)) 0 M2
    ) else
    (isO O M2 v1 0).bind fun _ =>
    xcl (f_String_charAt O f v1 v5 M2) fun x3 M3 =>
    f_Law_type_53 O f (f_Law_type_20 O f K7 n) v0 v1 v2 v5 (kshl v3 (kand (ki2l 8) 63)) (ki2l x3) M3
set_option maxRecDepth 20000 in
theorem k_f_Law_type_20 (O : Nat → Option va_E) (f d : Nat) (K7 : Nat → Nat → Int → xM → Option (Unit × xM)) (hK7 : ∀ (v0 : Nat) (v1 : Nat) (v2 : Int) M, xZ oU O (d + 4) 59 7 [(0, .ref v0), (1, .ref v1), (2, .int (yw v2))] [] M (K7 v0 v1 v2 M)) : ∀ (n : Nat) (v0 : Nat) (v1 : Nat) (v2 : Int) (v3 : Int) (v5 : Int) (M : xM), xZ oU O (d + 4) 59 20 [(0, .ref v0), (1, .ref v1), (2, .int (yw v2)), (3, .long (yl v3)), (5, .int (yw v5))] [] M (f_Law_type_20 O f K7 n v0 v1 v2 v3 v5 M) := by
  intro n
  induction n with
  | zero =>
    intro v0 v1 v2 v3 v5 M
    exact xZ.no
  | succ n ih =>
    intro v0 v1 v2 v3 v5 M
    unfold f_Law_type_20
    refine xZ.adv (me := xm59) hP_59 4 (pc' := 26) (lv' := [(0, .ref v0), (1, .ref v1), (2, .int (yw v2)), (3, .long (yl v3)), (5, .int (yw v5))]) (st' := [.int ((yw v2) + (8 : Int32)), .int (yw v5)]) rfl ?_
    refine xZ.eqs (lv2 := [(0, .ref v0), (1, .ref v1), (2, .int (yw v2)), (3, .long (yl v3)), (5, .int (yw v5))]) (st2 := [.int (yw (v2 + 8)), .int (yw v5)]) rfl (by simp only [yl_lit, yL_lit, yw_add, yw_sub, yw_mul, yw_neg, yl_add, yl_sub, yl_mul, cj_and, cj_or, cj_xor, cj_shl, cj_shr, cj_ushr, cj_div, cj_i2c, cj_i2b, cj_dc, ck_and, ck_or, ck_xor, ck_shl, ck_shr, ck_ushr, ck_i2l, ck_l2i, ck_cmp]) ?_
    refine xZ.jc_ge (me := xm59) hP_59 rfl (fun h1 => ?_) (fun h1 => ?_)
    · skip
      refine xZ.adv (me := xm59) hP_59 2 (pc' := 63) (lv' := [(0, .ref v0), (1, .ref v1), (2, .int (yw v2)), (3, .long (yl v3)), (5, .int (yw v5))]) (st' := [.long (yl v3), .ref v0]) rfl ?_
      refine xZ.callv (κ := oJ) (av := [.long (yl v3)]) (rest := []) (st' := fun x1 => [.int (yw x1)]) (k0 := v0) (me := xm59) hP_59 rfl (Or.inl rfl) ⟨rfl, by decide⟩ rfl rfl (Nat.le_of_ble_eq_true rfl) (by decide) hP_61 (Nat.le_of_ble_eq_true rfl) (fun _ => rfl) (k_f_Calendarhall_type O f (d + 2) v0 v3 M) (fun x1 M1 => ?_)
      refine xZ.adv (me := xm59) hP_59 3 (pc' := 7) (lv' := [(2, .int ((yw v2) + (8 : Int32))), (0, .ref v0), (1, .ref v1), (3, .long (yl v3)), (5, .int (yw v5))]) (st' := []) rfl ?_
      refine xZ.eqs (lv2 := [(2, .int (yw (v2 + 8))), (0, .ref v0), (1, .ref v1), (3, .long (yl v3)), (5, .int (yw v5))]) (st2 := []) (by simp only [yl_lit, yL_lit, yw_add, yw_sub, yw_mul, yw_neg, yl_add, yl_sub, yl_mul, cj_and, cj_or, cj_xor, cj_shl, cj_shr, cj_ushr, cj_div, cj_i2c, cj_i2b, cj_dc, ck_and, ck_or, ck_xor, ck_shl, ck_shr, ck_ushr, ck_i2l, ck_l2i, ck_cmp]) rfl ?_
      exact xZ.sub (xsc (.tail _ (.head _)) (xsc (.tail _ (.tail _ (.head _))) (xsc (.head _) xsn))) (show ([2, 0, 1, 3, 5] : List Nat).Nodup from by decide) (hK7 v0 v1 (v2 + 8) M1)
    · skip
      refine xZ.adv (me := xm59) hP_59 5 (pc' := 36) (lv' := [(0, .ref v0), (1, .ref v1), (2, .int (yw v2)), (3, .long (yl v3)), (5, .int (yw v5))]) (st' := [.ref v1, .int (yw v5), .long ((yl v3) <<< (Int32.toInt64 (8 : Int32) &&& 63))]) rfl ?_
      refine xZ.eqs (lv2 := [(0, .ref v0), (1, .ref v1), (2, .int (yw v2)), (3, .long (yl v3)), (5, .int (yw v5))]) (st2 := [.ref v1, .int (yw v5), .long (yl (kshl v3 (kand (ki2l 8) 63)))]) rfl (by simp only [yl_lit, yL_lit, yw_add, yw_sub, yw_mul, yw_neg, yl_add, yl_sub, yl_mul, cj_and, cj_or, cj_xor, cj_shl, cj_shr, cj_ushr, cj_div, cj_i2c, cj_i2b, cj_dc, ck_and, ck_or, ck_xor, ck_shl, ck_shr, ck_ushr, ck_i2l, ck_l2i, ck_cmp]) ?_
      refine xZ.callv (κ := oJ) (av := []) (rest := [.int (yw v5), .long (yl (kshl v3 (kand (ki2l 8) 63)))]) (st' := fun x2 => [.int (yw x2), .int (yw v5), .long (yl (kshl v3 (kand (ki2l 8) 63)))]) (k0 := v1) (me := xm59) hP_59 rfl (Or.inl rfl) ⟨rfl, by decide⟩ rfl rfl (Nat.le_of_ble_eq_true rfl) (by decide) hP_267 (Nat.le_of_ble_eq_true rfl) (fun _ => rfl) (k_f_String_length O f (d + 2) v1 M) (fun x2 M2 => ?_)
      refine xZ.jc_ge (me := xm59) hP_59 rfl (fun h2 => ?_) (fun h2 => ?_)
      · skip
        refine xZ.adv (me := xm59) hP_59 1 (pc' := 53) (lv' := [(0, .ref v0), (1, .ref v1), (2, .int (yw v2)), (3, .long (yl v3)), (5, .int (yw v5))]) (st' := [.long (0 : Int64), .long (yl (kshl v3 (kand (ki2l 8) 63)))]) rfl ?_
        refine xZ.eqs (lv2 := [(0, .ref v0), (1, .ref v1), (2, .int (yw v2)), (3, .long (yl v3)), (5, .int (yw v5))]) (st2 := [.long (yl 0), .long (yl (kshl v3 (kand (ki2l 8) 63)))]) rfl (by simp only [yl_lit, yL_lit, yw_add, yw_sub, yw_mul, yw_neg, yl_add, yl_sub, yl_mul, cj_and, cj_or, cj_xor, cj_shl, cj_shr, cj_ushr, cj_div, cj_i2c, cj_i2b, cj_dc, ck_and, ck_or, ck_xor, ck_shl, ck_shr, ck_ushr, ck_i2l, ck_l2i, ck_cmp]) ?_
        exact xZ.sub (xsc (.head _) (xsc (.tail _ (.head _)) (xsc (.tail _ (.tail _ (.head _))) (xsc (.tail _ (.tail _ (.tail _ (.tail _ (.head _))))) xsn)))) (show ([0, 1, 2, 3, 5] : List Nat).Nodup from by decide) (k_f_Law_type_53 O f d (f_Law_type_20 O f K7 n) ih v0 v1 v2 v5 (kshl v3 (kand (ki2l 8) 63)) 0 M2)
      · skip
        refine xZ.adv (me := xm59) hP_59 2 (pc' := 45) (lv' := [(0, .ref v0), (1, .ref v1), (2, .int (yw v2)), (3, .long (yl v3)), (5, .int (yw v5))]) (st' := [.int (yw v5), .ref v1, .long (yl (kshl v3 (kand (ki2l 8) 63)))]) rfl ?_
        refine xZ.callv (κ := oJ) (av := [.int (yw v5)]) (rest := [.long (yl (kshl v3 (kand (ki2l 8) 63)))]) (st' := fun x3 => [.int (yw x3), .long (yl (kshl v3 (kand (ki2l 8) 63)))]) (k0 := v1) (me := xm59) hP_59 rfl (Or.inl rfl) ⟨rfl, by decide⟩ rfl rfl (Nat.le_of_ble_eq_true rfl) (by decide) hP_289 (Nat.le_of_ble_eq_true rfl) (fun _ => rfl) (k_f_String_charAt O f (d + 0) v1 v5 M2) (fun x3 M3 => ?_)
        refine xZ.adv (me := xm59) hP_59 2 (pc' := 53) (lv' := [(0, .ref v0), (1, .ref v1), (2, .int (yw v2)), (3, .long (yl v3)), (5, .int (yw v5))]) (st' := [.long (Int32.toInt64 (yw x3)), .long (yl (kshl v3 (kand (ki2l 8) 63)))]) rfl ?_
        refine xZ.eqs (lv2 := [(0, .ref v0), (1, .ref v1), (2, .int (yw v2)), (3, .long (yl v3)), (5, .int (yw v5))]) (st2 := [.long (yl (ki2l x3)), .long (yl (kshl v3 (kand (ki2l 8) 63)))]) rfl (by simp only [yl_lit, yL_lit, yw_add, yw_sub, yw_mul, yw_neg, yl_add, yl_sub, yl_mul, cj_and, cj_or, cj_xor, cj_shl, cj_shr, cj_ushr, cj_div, cj_i2c, cj_i2b, cj_dc, ck_and, ck_or, ck_xor, ck_shl, ck_shr, ck_ushr, ck_i2l, ck_l2i, ck_cmp]) ?_
        exact xZ.sub (xsc (.head _) (xsc (.tail _ (.head _)) (xsc (.tail _ (.tail _ (.head _))) (xsc (.tail _ (.tail _ (.tail _ (.tail _ (.head _))))) xsn)))) (show ([0, 1, 2, 3, 5] : List Nat).Nodup from by decide) (k_f_Law_type_53 O f d (f_Law_type_20 O f K7 n) ih v0 v1 v2 v5 (kshl v3 (kand (ki2l 8) 63)) (ki2l x3) M3)
def f_Law_type_7 (O : Nat → Option va_E) (f : Nat) : Nat → Nat → Nat → Int → xM → Option (Unit × xM)
  | 0, _, _, _, _ => none
  | n + 1, v0, v1, v2, M =>
    (isO O M v1 0).bind fun _ =>
    xcl (f_String_length O f v1 M) fun x1 M1 =>
    if yw x1 ≤ yw v2 then (
      some ((), M1)
    ) else
    f_Law_type_20 O f (f_Law_type_7 O f n) f v0 v1 v2 0 v2 M1
set_option maxRecDepth 20000 in
theorem k_f_Law_type_7 (O : Nat → Option va_E) (f d : Nat) : ∀ (n : Nat) (v0 : Nat) (v1 : Nat) (v2 : Int) (M : xM), xZ oU O (d + 4) 59 7 [(0, .ref v0), (1, .ref v1), (2, .int (yw v2))] [] M (f_Law_type_7 O f n v0 v1 v2 M) := by
  intro n
  induction n with
  | zero =>
    intro v0 v1 v2 M
    exact xZ.no
  | succ n ih =>
    intro v0 v1 v2 M
    unfold f_Law_type_7
    refine xZ.adv (me := xm59) hP_59 2 (pc' := 9) (lv' := [(0, .ref v0), (1, .ref v1), (2, .int (yw v2))]) (st' := [.ref v1, .int (yw v2)]) rfl ?_
    refine xZ.callv (κ := oJ) (av := []) (rest := [.int (yw v2)]) (st' := fun x1 => [.int (yw x1), .int (yw v2)]) (k0 := v1) (me := xm59) hP_59 rfl (Or.inl rfl) ⟨rfl, by decide⟩ rfl rfl (Nat.le_of_ble_eq_true rfl) (by decide) hP_267 (Nat.le_of_ble_eq_true rfl) (fun _ => rfl) (k_f_String_length O f (d + 2) v1 M) (fun x1 M1 => ?_)
    refine xZ.jc_ge (me := xm59) hP_59 rfl (fun h1 => ?_) (fun h1 => ?_)
    · skip
      exact xZ.retu (me := xm59) hP_59 rfl rfl
    · skip
      refine xZ.adv (me := xm59) hP_59 4 (pc' := 20) (lv' := [(5, .int (yw v2)), (3, .long (0 : Int64)), (0, .ref v0), (1, .ref v1), (2, .int (yw v2))]) (st' := []) rfl ?_
      refine xZ.eqs (lv2 := [(5, .int (yw v2)), (3, .long (yl 0)), (0, .ref v0), (1, .ref v1), (2, .int (yw v2))]) (st2 := []) (by simp only [yl_lit, yL_lit, yw_add, yw_sub, yw_mul, yw_neg, yl_add, yl_sub, yl_mul, cj_and, cj_or, cj_xor, cj_shl, cj_shr, cj_ushr, cj_div, cj_i2c, cj_i2b, cj_dc, ck_and, ck_or, ck_xor, ck_shl, ck_shr, ck_ushr, ck_i2l, ck_l2i, ck_cmp]) rfl ?_
      exact xZ.sub (xsc (.tail _ (.tail _ (.head _))) (xsc (.tail _ (.tail _ (.tail _ (.head _)))) (xsc (.tail _ (.tail _ (.tail _ (.tail _ (.head _))))) (xsc (.tail _ (.head _)) (xsc (.head _) xsn))))) (show ([5, 3, 0, 1, 2] : List Nat).Nodup from by decide) (k_f_Law_type_20 O f d (f_Law_type_7 O f n) ih f v0 v1 v2 0 v2 M1)
def f_Law_type (O : Nat → Option va_E) (f : Nat) (v0 : Nat) (v1 : Nat) (M : xM) : Option (Unit × xM) :=
  (isO O M v0 12).bind fun _ =>
  xcl (f_Calendarhall_clearText O f v0 M) fun x1 M1 =>
  f_Law_type_7 O f f v0 v1 0 M1
set_option maxRecDepth 20000 in
theorem k_f_Law_type (O : Nat → Option va_E) (f d : Nat) (v0 : Nat) (v1 : Nat) (M : xM) : xZ oU O (d + 4) 59 0 [(0, .ref v0), (1, .ref v1)] [] M (f_Law_type O f v0 v1 M) := by
  unfold f_Law_type
  refine xZ.adv (me := xm59) hP_59 1 (pc' := 1) (lv' := [(0, .ref v0), (1, .ref v1)]) (st' := [.ref v0]) rfl ?_
  refine xZ.callv (κ := oJ) (av := []) (rest := []) (st' := fun x1 => [.int (yw x1)]) (k0 := v0) (me := xm59) hP_59 rfl (Or.inl rfl) ⟨rfl, by decide⟩ rfl rfl (Nat.le_of_ble_eq_true rfl) (by decide) hP_60 (Nat.le_of_ble_eq_true rfl) (fun _ => rfl) (k_f_Calendarhall_clearText O f (d + 3) v0 M) (fun x1 M1 => ?_)
  refine xZ.adv (me := xm59) hP_59 3 (pc' := 7) (lv' := [(2, .int (0 : Int32)), (0, .ref v0), (1, .ref v1)]) (st' := []) rfl ?_
  refine xZ.eqs (lv2 := [(2, .int (yw 0)), (0, .ref v0), (1, .ref v1)]) (st2 := []) (by simp only [yl_lit, yL_lit, yw_add, yw_sub, yw_mul, yw_neg, yl_add, yl_sub, yl_mul, cj_and, cj_or, cj_xor, cj_shl, cj_shr, cj_ushr, cj_div, cj_i2c, cj_i2b, cj_dc, ck_and, ck_or, ck_xor, ck_shl, ck_shr, ck_ushr, ck_i2l, ck_l2i, ck_cmp]) rfl ?_
  exact xZ.sub (xsc (.tail _ (.head _)) (xsc (.tail _ (.tail _ (.head _))) (xsc (.head _) xsn))) (show ([2, 0, 1] : List Nat).Nodup from by decide) (k_f_Law_type_7 O f d f v0 v1 0 M1)
def f_Reader_signAt (O : Nat → Option va_E) (f : Nat) (v0 : Nat) (v1 : Int) (M : xM) : Option (Int × xM) :=
  if yw v1 < yw 0 then (
    if xfit .char (.int (yw 32)) = true then some (32, M) else none
  ) else
  (gJ O M v0 8 0).bind fun x1 =>
  if yw x1 ≤ yw v1 then (
    if xfit .char (.int (yw 32)) = true then some (32, M) else none
  ) else
  (gR O M v0 8 2).bind fun x2 =>
  (aJN O M x2).bind fun x3 =>
  if yw x3 ≤ yw v1 then (
    if xfit .char (.int (yw 32)) = true then some (32, M) else none
  ) else
  (gR O M v0 8 2).bind fun x4 =>
  (aJC O M x4 v1).bind fun x5 =>
  if xfit .char (.int (yw x5)) = true then some (x5, M) else none
set_option maxRecDepth 20000 in
theorem k_f_Reader_signAt (O : Nat → Option va_E) (f d : Nat) (v0 : Nat) (v1 : Int) (M : xM) : xZ oJ O (d + 0) 66 0 [(0, .ref v0), (1, .int (yw v1))] [] M (f_Reader_signAt O f v0 v1 M) := by
  unfold f_Reader_signAt
  refine xZ.adv (me := xm66) hP_66 1 (pc' := 1) (lv' := [(0, .ref v0), (1, .int (yw v1))]) (st' := [.int (yw v1)]) rfl ?_
  refine xZ.jf_lt (me := xm66) hP_66 rfl (fun h1 => ?_) (fun h1 => ?_)
  · skip
    refine xZ.adv (me := xm66) hP_66 1 (pc' := 32) (lv' := [(0, .ref v0), (1, .int (yw v1))]) (st' := [.int (32 : Int32)]) rfl ?_
    refine xZ.eqs (lv2 := [(0, .ref v0), (1, .int (yw v1))]) (st2 := [.int (yw 32)]) rfl (by simp only [yl_lit, yL_lit, yw_add, yw_sub, yw_mul, yw_neg, yl_add, yl_sub, yl_mul, cj_and, cj_or, cj_xor, cj_shl, cj_shr, cj_ushr, cj_div, cj_i2c, cj_i2b, cj_dc, ck_and, ck_or, ck_xor, ck_shl, ck_shr, ck_ushr, ck_i2l, ck_l2i, ck_cmp]) ?_
    exact xZ.jretf (me := xm66) hP_66 rfl rfl
  · skip
    refine xZ.adv (me := xm66) hP_66 2 (pc' := 6) (lv' := [(0, .ref v0), (1, .int (yw v1))]) (st' := [.ref v0, .int (yw v1)]) rfl ?_
    refine xZ.k_gJ (me := xm66) hP_66 rfl (fun x1 => ?_)
    refine xZ.jc_ge (me := xm66) hP_66 rfl (fun h2 => ?_) (fun h2 => ?_)
    · skip
      refine xZ.adv (me := xm66) hP_66 1 (pc' := 32) (lv' := [(0, .ref v0), (1, .int (yw v1))]) (st' := [.int (32 : Int32)]) rfl ?_
      refine xZ.eqs (lv2 := [(0, .ref v0), (1, .int (yw v1))]) (st2 := [.int (yw 32)]) rfl (by simp only [yl_lit, yL_lit, yw_add, yw_sub, yw_mul, yw_neg, yl_add, yl_sub, yl_mul, cj_and, cj_or, cj_xor, cj_shl, cj_shr, cj_ushr, cj_div, cj_i2c, cj_i2b, cj_dc, ck_and, ck_or, ck_xor, ck_shl, ck_shr, ck_ushr, ck_i2l, ck_l2i, ck_cmp]) ?_
      exact xZ.jretf (me := xm66) hP_66 rfl rfl
    · skip
      refine xZ.adv (me := xm66) hP_66 2 (pc' := 14) (lv' := [(0, .ref v0), (1, .int (yw v1))]) (st' := [.ref v0, .int (yw v1)]) rfl ?_
      refine xZ.k_gR (me := xm66) hP_66 rfl (fun x2 => ?_)
      refine xZ.k_aJN (me := xm66) hP_66 rfl (fun x3 => ?_)
      refine xZ.jc_ge (me := xm66) hP_66 rfl (fun h3 => ?_) (fun h3 => ?_)
      · skip
        refine xZ.adv (me := xm66) hP_66 1 (pc' := 32) (lv' := [(0, .ref v0), (1, .int (yw v1))]) (st' := [.int (32 : Int32)]) rfl ?_
        refine xZ.eqs (lv2 := [(0, .ref v0), (1, .int (yw v1))]) (st2 := [.int (yw 32)]) rfl (by simp only [yl_lit, yL_lit, yw_add, yw_sub, yw_mul, yw_neg, yl_add, yl_sub, yl_mul, cj_and, cj_or, cj_xor, cj_shl, cj_shr, cj_ushr, cj_div, cj_i2c, cj_i2b, cj_dc, ck_and, ck_or, ck_xor, ck_shl, ck_shr, ck_ushr, ck_i2l, ck_l2i, ck_cmp]) ?_
        exact xZ.jretf (me := xm66) hP_66 rfl rfl
      · skip
        refine xZ.adv (me := xm66) hP_66 1 (pc' := 22) (lv' := [(0, .ref v0), (1, .int (yw v1))]) (st' := [.ref v0]) rfl ?_
        refine xZ.k_gR (me := xm66) hP_66 rfl (fun x4 => ?_)
        refine xZ.adv (me := xm66) hP_66 1 (pc' := 26) (lv' := [(0, .ref v0), (1, .int (yw v1))]) (st' := [.int (yw v1), .ref x4]) rfl ?_
        refine xZ.k_aJC (me := xm66) hP_66 rfl (fun x5 => ?_)
        refine xZ.adv (me := xm66) hP_66 1 (pc' := 32) (lv' := [(0, .ref v0), (1, .int (yw v1))]) (st' := [.int (yw x5)]) rfl ?_
        exact xZ.jretf (me := xm66) hP_66 rfl rfl
def f_Reader_goOn_188 (O : Nat → Option va_E) (f : Nat) : Nat → Nat → xM → Option (Unit × xM)
  | 0, _, _ => none
  | n + 1, v0, M =>
    (gJ O M v0 8 5).bind fun x1 =>
    if yw x1 = yw 1 then (
      (gJ O M v0 8 4).bind fun x2 =>
      (gJ O M v0 8 0).bind fun x3 =>
      if yw x3 ≤ yw x2 then (
        some ((), M)
      ) else
      (gJ O M v0 8 4).bind fun x4 =>
      (isO O M v0 8).bind fun _ =>
      xcl (f_Reader_signAt O f v0 x4 M) fun x5 M1 =>
      if yw x5 < yw 48 then (
        some ((), M1)
      ) else
      (gJ O M1 v0 8 4).bind fun x6 =>
      (isO O M1 v0 8).bind fun _ =>
      xcl (f_Reader_signAt O f v0 x6 M1) fun x7 M2 =>
      if yw 57 < yw x7 then (
        some ((), M2)
      ) else
      (gJ O M2 v0 8 6).bind fun x8 =>
      (gJ O M2 v0 8 4).bind fun x9 =>
      (isO O M2 v0 8).bind fun _ =>
      xcl (f_Reader_signAt O f v0 x9 M2) fun x10 M3 =>
      xcl (f_Math_min O f (((x8 * 10) + x10) - 48) 1000000 M3) fun x11 M4 =>
      (pJ M4 v0 8 6 x11).bind fun M5 =>
      (gJ O M5 v0 8 4).bind fun x12 =>
      (pJ M5 v0 8 4 (x12 + 1)).bind fun M6 =>
      f_Reader_goOn_188 O f n v0 M6
    ) else
    some ((), M)
set_option maxRecDepth 20000 in
theorem k_f_Reader_goOn_188 (O : Nat → Option va_E) (f d : Nat) : ∀ (n : Nat) (v0 : Nat) (M : xM), xZ oU O (d + 1) 65 188 [(0, .ref v0)] [] M (f_Reader_goOn_188 O f n v0 M) := by
  intro n
  induction n with
  | zero =>
    intro v0 M
    exact xZ.no
  | succ n ih =>
    intro v0 M
    unfold f_Reader_goOn_188
    refine xZ.adv (me := xm65) hP_65 1 (pc' := 189) (lv' := [(0, .ref v0)]) (st' := [.ref v0]) rfl ?_
    refine xZ.k_gJ (me := xm65) hP_65 rfl (fun x1 => ?_)
    refine xZ.adv (me := xm65) hP_65 1 (pc' := 193) (lv' := [(0, .ref v0)]) (st' := [.int (1 : Int32), .int (yw x1)]) rfl ?_
    refine xZ.eqs (lv2 := [(0, .ref v0)]) (st2 := [.int (yw 1), .int (yw x1)]) rfl (by simp only [yl_lit, yL_lit, yw_add, yw_sub, yw_mul, yw_neg, yl_add, yl_sub, yl_mul, cj_and, cj_or, cj_xor, cj_shl, cj_shr, cj_ushr, cj_div, cj_i2c, cj_i2b, cj_dc, ck_and, ck_or, ck_xor, ck_shl, ck_shr, ck_ushr, ck_i2l, ck_l2i, ck_cmp]) ?_
    refine xZ.jc_ne (me := xm65) hP_65 rfl (fun h1 => ?_) (fun h1 => ?_)
    · skip
      refine xZ.adv (me := xm65) hP_65 1 (pc' := 197) (lv' := [(0, .ref v0)]) (st' := [.ref v0]) rfl ?_
      refine xZ.k_gJ (me := xm65) hP_65 rfl (fun x2 => ?_)
      refine xZ.adv (me := xm65) hP_65 1 (pc' := 201) (lv' := [(0, .ref v0)]) (st' := [.ref v0, .int (yw x2)]) rfl ?_
      refine xZ.k_gJ (me := xm65) hP_65 rfl (fun x3 => ?_)
      refine xZ.jc_ge (me := xm65) hP_65 rfl (fun h2 => ?_) (fun h2 => ?_)
      · skip
        exact xZ.retu (me := xm65) hP_65 rfl rfl
      · skip
        refine xZ.adv (me := xm65) hP_65 2 (pc' := 209) (lv' := [(0, .ref v0)]) (st' := [.ref v0, .ref v0]) rfl ?_
        refine xZ.k_gJ (me := xm65) hP_65 rfl (fun x4 => ?_)
        refine xZ.callv (κ := oJ) (av := [.int (yw x4)]) (rest := []) (st' := fun x5 => [.int (yw x5)]) (k0 := v0) (me := xm65) hP_65 rfl (Or.inl rfl) ⟨rfl, by decide⟩ rfl rfl (Nat.le_of_ble_eq_true rfl) (by decide) hP_66 (Nat.le_of_ble_eq_true rfl) (fun _ => rfl) (k_f_Reader_signAt O f (d + 0) v0 x4 M) (fun x5 M1 => ?_)
        refine xZ.adv (me := xm65) hP_65 1 (pc' := 217) (lv' := [(0, .ref v0)]) (st' := [.int (48 : Int32), .int (yw x5)]) rfl ?_
        refine xZ.eqs (lv2 := [(0, .ref v0)]) (st2 := [.int (yw 48), .int (yw x5)]) rfl (by simp only [yl_lit, yL_lit, yw_add, yw_sub, yw_mul, yw_neg, yl_add, yl_sub, yl_mul, cj_and, cj_or, cj_xor, cj_shl, cj_shr, cj_ushr, cj_div, cj_i2c, cj_i2b, cj_dc, ck_and, ck_or, ck_xor, ck_shl, ck_shr, ck_ushr, ck_i2l, ck_l2i, ck_cmp]) ?_
        refine xZ.jc_lt (me := xm65) hP_65 rfl (fun h3 => ?_) (fun h3 => ?_)
        · skip
          exact xZ.retu (me := xm65) hP_65 rfl rfl
        · skip
          refine xZ.adv (me := xm65) hP_65 2 (pc' := 222) (lv' := [(0, .ref v0)]) (st' := [.ref v0, .ref v0]) rfl ?_
          refine xZ.k_gJ (me := xm65) hP_65 rfl (fun x6 => ?_)
          refine xZ.callv (κ := oJ) (av := [.int (yw x6)]) (rest := []) (st' := fun x7 => [.int (yw x7)]) (k0 := v0) (me := xm65) hP_65 rfl (Or.inl rfl) ⟨rfl, by decide⟩ rfl rfl (Nat.le_of_ble_eq_true rfl) (by decide) hP_66 (Nat.le_of_ble_eq_true rfl) (fun _ => rfl) (k_f_Reader_signAt O f (d + 0) v0 x6 M1) (fun x7 M2 => ?_)
          refine xZ.adv (me := xm65) hP_65 1 (pc' := 230) (lv' := [(0, .ref v0)]) (st' := [.int (57 : Int32), .int (yw x7)]) rfl ?_
          refine xZ.eqs (lv2 := [(0, .ref v0)]) (st2 := [.int (yw 57), .int (yw x7)]) rfl (by simp only [yl_lit, yL_lit, yw_add, yw_sub, yw_mul, yw_neg, yl_add, yl_sub, yl_mul, cj_and, cj_or, cj_xor, cj_shl, cj_shr, cj_ushr, cj_div, cj_i2c, cj_i2b, cj_dc, ck_and, ck_or, ck_xor, ck_shl, ck_shr, ck_ushr, ck_i2l, ck_l2i, ck_cmp]) ?_
          refine xZ.jc_gt (me := xm65) hP_65 rfl (fun h4 => ?_) (fun h4 => ?_)
          · skip
            exact xZ.retu (me := xm65) hP_65 rfl rfl
          · skip
            refine xZ.adv (me := xm65) hP_65 2 (pc' := 235) (lv' := [(0, .ref v0)]) (st' := [.ref v0, .ref v0]) rfl ?_
            refine xZ.k_gJ (me := xm65) hP_65 rfl (fun x8 => ?_)
            refine xZ.adv (me := xm65) hP_65 4 (pc' := 243) (lv' := [(0, .ref v0)]) (st' := [.ref v0, .ref v0, .int ((yw x8) * (10 : Int32)), .ref v0]) rfl ?_
            refine xZ.eqs (lv2 := [(0, .ref v0)]) (st2 := [.ref v0, .ref v0, .int (yw (x8 * 10)), .ref v0]) rfl (by simp only [yl_lit, yL_lit, yw_add, yw_sub, yw_mul, yw_neg, yl_add, yl_sub, yl_mul, cj_and, cj_or, cj_xor, cj_shl, cj_shr, cj_ushr, cj_div, cj_i2c, cj_i2b, cj_dc, ck_and, ck_or, ck_xor, ck_shl, ck_shr, ck_ushr, ck_i2l, ck_l2i, ck_cmp]) ?_
            refine xZ.k_gJ (me := xm65) hP_65 rfl (fun x9 => ?_)
            refine xZ.callv (κ := oJ) (av := [.int (yw x9)]) (rest := [.int (yw (x8 * 10)), .ref v0]) (st' := fun x10 => [.int (yw x10), .int (yw (x8 * 10)), .ref v0]) (k0 := v0) (me := xm65) hP_65 rfl (Or.inl rfl) ⟨rfl, by decide⟩ rfl rfl (Nat.le_of_ble_eq_true rfl) (by decide) hP_66 (Nat.le_of_ble_eq_true rfl) (fun _ => rfl) (k_f_Reader_signAt O f (d + 0) v0 x9 M2) (fun x10 M3 => ?_)
            refine xZ.adv (me := xm65) hP_65 4 (pc' := 255) (lv' := [(0, .ref v0)]) (st' := [.int (1000000 : Int32), .int (((yw (x8 * 10)) + (yw x10)) - (48 : Int32)), .ref v0]) rfl ?_
            refine xZ.eqs (lv2 := [(0, .ref v0)]) (st2 := [.int (yw 1000000), .int (yw (((x8 * 10) + x10) - 48)), .ref v0]) rfl (by simp only [yl_lit, yL_lit, yw_add, yw_sub, yw_mul, yw_neg, yl_add, yl_sub, yl_mul, cj_and, cj_or, cj_xor, cj_shl, cj_shr, cj_ushr, cj_div, cj_i2c, cj_i2b, cj_dc, ck_and, ck_or, ck_xor, ck_shl, ck_shr, ck_ushr, ck_i2l, ck_l2i, ck_cmp]) ?_
            refine xZ.calls (κ := oJ) (av := [.int (yw (((x8 * 10) + x10) - 48)), .int (yw 1000000)]) (rest := [.ref v0]) (st' := fun x11 => [.int (yw x11), .ref v0]) (me := xm65) hP_65 rfl rfl rfl (Nat.le_of_ble_eq_true rfl) (by decide) hP_248 (Nat.le_of_ble_eq_true rfl) (fun _ => rfl) (k_f_Math_min O f (d + 0) (((x8 * 10) + x10) - 48) 1000000 M3) (fun x11 M4 => ?_)
            refine xZ.k_pJ (me := xm65) hP_65 rfl (fun M5 => ?_)
            refine xZ.adv (me := xm65) hP_65 2 (pc' := 263) (lv' := [(0, .ref v0)]) (st' := [.ref v0, .ref v0]) rfl ?_
            refine xZ.k_gJ (me := xm65) hP_65 rfl (fun x12 => ?_)
            refine xZ.adv (me := xm65) hP_65 2 (pc' := 268) (lv' := [(0, .ref v0)]) (st' := [.int ((yw x12) + (1 : Int32)), .ref v0]) rfl ?_
            refine xZ.eqs (lv2 := [(0, .ref v0)]) (st2 := [.int (yw (x12 + 1)), .ref v0]) rfl (by simp only [yl_lit, yL_lit, yw_add, yw_sub, yw_mul, yw_neg, yl_add, yl_sub, yl_mul, cj_and, cj_or, cj_xor, cj_shl, cj_shr, cj_ushr, cj_div, cj_i2c, cj_i2b, cj_dc, ck_and, ck_or, ck_xor, ck_shl, ck_shr, ck_ushr, ck_i2l, ck_l2i, ck_cmp]) ?_
            refine xZ.k_pJ (me := xm65) hP_65 rfl (fun M6 => ?_)
            refine xZ.adv (me := xm65) hP_65 1 (pc' := 188) (lv' := [(0, .ref v0)]) (st' := []) rfl ?_
            exact (ih v0 M6)
    · skip
      exact xZ.retu (me := xm65) hP_65 rfl rfl
def f_Reader_goOn_131 (O : Nat → Option va_E) (f : Nat) : Nat → Nat → xM → Option (Unit × xM)
  | 0, _, _ => none
  | n + 1, v0, M =>
    (gJ O M v0 8 5).bind fun x1 =>
    if yw x1 = yw 0 then (
      (gJ O M v0 8 4).bind fun x2 =>
      (gJ O M v0 8 0).bind fun x3 =>
      if yw x3 ≤ yw x2 then (
        f_Reader_goOn_188 O f f v0 M
      ) else
      (gJ O M v0 8 4).bind fun x4 =>
      (isO O M v0 8).bind fun _ =>
      xcl (f_Reader_signAt O f v0 x4 M) fun x5 M1 =>
      if yw x5 < yw 97 then (
        f_Reader_goOn_188 O f f v0 M1
      ) else
      (gJ O M1 v0 8 4).bind fun x6 =>
      (isO O M1 v0 8).bind fun _ =>
      xcl (f_Reader_signAt O f v0 x6 M1) fun x7 M2 =>
      if yw 122 < yw x7 then (
        f_Reader_goOn_188 O f f v0 M2
      ) else
      (gJ O M2 v0 8 4).bind fun x8 =>
      (pJ M2 v0 8 4 (x8 + 1)).bind fun M3 =>
      f_Reader_goOn_131 O f n v0 M3
    ) else
    f_Reader_goOn_188 O f f v0 M
set_option maxRecDepth 20000 in
theorem k_f_Reader_goOn_131 (O : Nat → Option va_E) (f d : Nat) : ∀ (n : Nat) (v0 : Nat) (M : xM), xZ oU O (d + 1) 65 131 [(0, .ref v0)] [] M (f_Reader_goOn_131 O f n v0 M) := by
  intro n
  induction n with
  | zero =>
    intro v0 M
    exact xZ.no
  | succ n ih =>
    intro v0 M
    unfold f_Reader_goOn_131
    refine xZ.adv (me := xm65) hP_65 1 (pc' := 132) (lv' := [(0, .ref v0)]) (st' := [.ref v0]) rfl ?_
    refine xZ.k_gJ (me := xm65) hP_65 rfl (fun x1 => ?_)
    refine xZ.jf_ne (me := xm65) hP_65 rfl (fun h1 => ?_) (fun h1 => ?_)
    · skip
      refine xZ.adv (me := xm65) hP_65 1 (pc' := 139) (lv' := [(0, .ref v0)]) (st' := [.ref v0]) rfl ?_
      refine xZ.k_gJ (me := xm65) hP_65 rfl (fun x2 => ?_)
      refine xZ.adv (me := xm65) hP_65 1 (pc' := 143) (lv' := [(0, .ref v0)]) (st' := [.ref v0, .int (yw x2)]) rfl ?_
      refine xZ.k_gJ (me := xm65) hP_65 rfl (fun x3 => ?_)
      refine xZ.jc_ge (me := xm65) hP_65 rfl (fun h2 => ?_) (fun h2 => ?_)
      · skip
        exact (k_f_Reader_goOn_188 O f d f v0 M)
      · skip
        refine xZ.adv (me := xm65) hP_65 2 (pc' := 151) (lv' := [(0, .ref v0)]) (st' := [.ref v0, .ref v0]) rfl ?_
        refine xZ.k_gJ (me := xm65) hP_65 rfl (fun x4 => ?_)
        refine xZ.callv (κ := oJ) (av := [.int (yw x4)]) (rest := []) (st' := fun x5 => [.int (yw x5)]) (k0 := v0) (me := xm65) hP_65 rfl (Or.inl rfl) ⟨rfl, by decide⟩ rfl rfl (Nat.le_of_ble_eq_true rfl) (by decide) hP_66 (Nat.le_of_ble_eq_true rfl) (fun _ => rfl) (k_f_Reader_signAt O f (d + 0) v0 x4 M) (fun x5 M1 => ?_)
        refine xZ.adv (me := xm65) hP_65 1 (pc' := 159) (lv' := [(0, .ref v0)]) (st' := [.int (97 : Int32), .int (yw x5)]) rfl ?_
        refine xZ.eqs (lv2 := [(0, .ref v0)]) (st2 := [.int (yw 97), .int (yw x5)]) rfl (by simp only [yl_lit, yL_lit, yw_add, yw_sub, yw_mul, yw_neg, yl_add, yl_sub, yl_mul, cj_and, cj_or, cj_xor, cj_shl, cj_shr, cj_ushr, cj_div, cj_i2c, cj_i2b, cj_dc, ck_and, ck_or, ck_xor, ck_shl, ck_shr, ck_ushr, ck_i2l, ck_l2i, ck_cmp]) ?_
        refine xZ.jc_lt (me := xm65) hP_65 rfl (fun h3 => ?_) (fun h3 => ?_)
        · skip
          exact (k_f_Reader_goOn_188 O f d f v0 M1)
        · skip
          refine xZ.adv (me := xm65) hP_65 2 (pc' := 164) (lv' := [(0, .ref v0)]) (st' := [.ref v0, .ref v0]) rfl ?_
          refine xZ.k_gJ (me := xm65) hP_65 rfl (fun x6 => ?_)
          refine xZ.callv (κ := oJ) (av := [.int (yw x6)]) (rest := []) (st' := fun x7 => [.int (yw x7)]) (k0 := v0) (me := xm65) hP_65 rfl (Or.inl rfl) ⟨rfl, by decide⟩ rfl rfl (Nat.le_of_ble_eq_true rfl) (by decide) hP_66 (Nat.le_of_ble_eq_true rfl) (fun _ => rfl) (k_f_Reader_signAt O f (d + 0) v0 x6 M1) (fun x7 M2 => ?_)
          refine xZ.adv (me := xm65) hP_65 1 (pc' := 172) (lv' := [(0, .ref v0)]) (st' := [.int (122 : Int32), .int (yw x7)]) rfl ?_
          refine xZ.eqs (lv2 := [(0, .ref v0)]) (st2 := [.int (yw 122), .int (yw x7)]) rfl (by simp only [yl_lit, yL_lit, yw_add, yw_sub, yw_mul, yw_neg, yl_add, yl_sub, yl_mul, cj_and, cj_or, cj_xor, cj_shl, cj_shr, cj_ushr, cj_div, cj_i2c, cj_i2b, cj_dc, ck_and, ck_or, ck_xor, ck_shl, ck_shr, ck_ushr, ck_i2l, ck_l2i, ck_cmp]) ?_
          refine xZ.jc_gt (me := xm65) hP_65 rfl (fun h4 => ?_) (fun h4 => ?_)
          · skip
            exact (k_f_Reader_goOn_188 O f d f v0 M2)
          · skip
            refine xZ.adv (me := xm65) hP_65 2 (pc' := 177) (lv' := [(0, .ref v0)]) (st' := [.ref v0, .ref v0]) rfl ?_
            refine xZ.k_gJ (me := xm65) hP_65 rfl (fun x8 => ?_)
            refine xZ.adv (me := xm65) hP_65 2 (pc' := 182) (lv' := [(0, .ref v0)]) (st' := [.int ((yw x8) + (1 : Int32)), .ref v0]) rfl ?_
            refine xZ.eqs (lv2 := [(0, .ref v0)]) (st2 := [.int (yw (x8 + 1)), .ref v0]) rfl (by simp only [yl_lit, yL_lit, yw_add, yw_sub, yw_mul, yw_neg, yl_add, yl_sub, yl_mul, cj_and, cj_or, cj_xor, cj_shl, cj_shr, cj_ushr, cj_div, cj_i2c, cj_i2b, cj_dc, ck_and, ck_or, ck_xor, ck_shl, ck_shr, ck_ushr, ck_i2l, ck_l2i, ck_cmp]) ?_
            refine xZ.k_pJ (me := xm65) hP_65 rfl (fun M3 => ?_)
            refine xZ.adv (me := xm65) hP_65 1 (pc' := 131) (lv' := [(0, .ref v0)]) (st' := []) rfl ?_
            exact (ih v0 M3)
    · skip
      exact (k_f_Reader_goOn_188 O f d f v0 M)
def f_Reader_goOn_126 (O : Nat → Option va_E) (f : Nat) (v0 : Nat) (M : xM) : Option (Unit × xM) :=
  (pJ M v0 8 5 2).bind fun M1 =>
  f_Reader_goOn_131 O f f v0 M1
set_option maxRecDepth 20000 in
theorem k_f_Reader_goOn_126 (O : Nat → Option va_E) (f d : Nat) (v0 : Nat) (M : xM) : xZ oU O (d + 1) 65 126 [(0, .ref v0)] [] M (f_Reader_goOn_126 O f v0 M) := by
  unfold f_Reader_goOn_126
  refine xZ.adv (me := xm65) hP_65 2 (pc' := 128) (lv' := [(0, .ref v0)]) (st' := [.int (2 : Int32), .ref v0]) rfl ?_
  refine xZ.eqs (lv2 := [(0, .ref v0)]) (st2 := [.int (yw 2), .ref v0]) rfl (by simp only [yl_lit, yL_lit, yw_add, yw_sub, yw_mul, yw_neg, yl_add, yl_sub, yl_mul, cj_and, cj_or, cj_xor, cj_shl, cj_shr, cj_ushr, cj_div, cj_i2c, cj_i2b, cj_dc, ck_and, ck_or, ck_xor, ck_shl, ck_shr, ck_ushr, ck_i2l, ck_l2i, ck_cmp]) ?_
  refine xZ.k_pJ (me := xm65) hP_65 rfl (fun M1 => ?_)
  exact (k_f_Reader_goOn_131 O f d f v0 M1)
def f_Reader_goOn_106 (O : Nat → Option va_E) (f : Nat) (v0 : Nat) (v1 : Int) (M : xM) : Option (Unit × xM) :=
  if yw v1 < yw 48 then (
    f_Reader_goOn_126 O f v0 M
  ) else
  if yw 57 < yw v1 then (
    f_Reader_goOn_126 O f v0 M
  ) else
  (pJ M v0 8 5 1).bind fun M1 =>
  f_Reader_goOn_131 O f f v0 M1
set_option maxRecDepth 20000 in
theorem k_f_Reader_goOn_106 (O : Nat → Option va_E) (f d : Nat) (v0 : Nat) (v1 : Int) (M : xM) : xZ oU O (d + 1) 65 106 [(0, .ref v0), (1, .int (yw v1))] [] M (f_Reader_goOn_106 O f v0 v1 M) := by
  unfold f_Reader_goOn_106
  refine xZ.adv (me := xm65) hP_65 2 (pc' := 109) (lv' := [(0, .ref v0), (1, .int (yw v1))]) (st' := [.int (48 : Int32), .int (yw v1)]) rfl ?_
  refine xZ.eqs (lv2 := [(0, .ref v0), (1, .int (yw v1))]) (st2 := [.int (yw 48), .int (yw v1)]) rfl (by simp only [yl_lit, yL_lit, yw_add, yw_sub, yw_mul, yw_neg, yl_add, yl_sub, yl_mul, cj_and, cj_or, cj_xor, cj_shl, cj_shr, cj_ushr, cj_div, cj_i2c, cj_i2b, cj_dc, ck_and, ck_or, ck_xor, ck_shl, ck_shr, ck_ushr, ck_i2l, ck_l2i, ck_cmp]) ?_
  refine xZ.jc_lt (me := xm65) hP_65 rfl (fun h1 => ?_) (fun h1 => ?_)
  · skip
    exact xZ.sub (xsc (.head _) xsn) (show ([0, 1] : List Nat).Nodup from by decide) (k_f_Reader_goOn_126 O f d v0 M)
  · skip
    refine xZ.adv (me := xm65) hP_65 2 (pc' := 115) (lv' := [(0, .ref v0), (1, .int (yw v1))]) (st' := [.int (57 : Int32), .int (yw v1)]) rfl ?_
    refine xZ.eqs (lv2 := [(0, .ref v0), (1, .int (yw v1))]) (st2 := [.int (yw 57), .int (yw v1)]) rfl (by simp only [yl_lit, yL_lit, yw_add, yw_sub, yw_mul, yw_neg, yl_add, yl_sub, yl_mul, cj_and, cj_or, cj_xor, cj_shl, cj_shr, cj_ushr, cj_div, cj_i2c, cj_i2b, cj_dc, ck_and, ck_or, ck_xor, ck_shl, ck_shr, ck_ushr, ck_i2l, ck_l2i, ck_cmp]) ?_
    refine xZ.jc_gt (me := xm65) hP_65 rfl (fun h2 => ?_) (fun h2 => ?_)
    · skip
      exact xZ.sub (xsc (.head _) xsn) (show ([0, 1] : List Nat).Nodup from by decide) (k_f_Reader_goOn_126 O f d v0 M)
    · skip
      refine xZ.adv (me := xm65) hP_65 2 (pc' := 120) (lv' := [(0, .ref v0), (1, .int (yw v1))]) (st' := [.int (1 : Int32), .ref v0]) rfl ?_
      refine xZ.eqs (lv2 := [(0, .ref v0), (1, .int (yw v1))]) (st2 := [.int (yw 1), .ref v0]) rfl (by simp only [yl_lit, yL_lit, yw_add, yw_sub, yw_mul, yw_neg, yl_add, yl_sub, yl_mul, cj_and, cj_or, cj_xor, cj_shl, cj_shr, cj_ushr, cj_div, cj_i2c, cj_i2b, cj_dc, ck_and, ck_or, ck_xor, ck_shl, ck_shr, ck_ushr, ck_i2l, ck_l2i, ck_cmp]) ?_
      refine xZ.k_pJ (me := xm65) hP_65 rfl (fun M1 => ?_)
      refine xZ.adv (me := xm65) hP_65 1 (pc' := 131) (lv' := [(0, .ref v0), (1, .int (yw v1))]) (st' := []) rfl ?_
      exact xZ.sub (xsc (.head _) xsn) (show ([0, 1] : List Nat).Nodup from by decide) (k_f_Reader_goOn_131 O f d f v0 M1)
def f_Reader_goOn_45 (O : Nat → Option va_E) (f : Nat) (v0 : Nat) (M : xM) : Option (Unit × xM) :=
  (gJ O M v0 8 3).bind fun x1 =>
  (pJ M v0 8 4 x1).bind fun M1 =>
  (pJ M1 v0 8 6 0).bind fun M2 =>
  (gJ O M2 v0 8 3).bind fun x2 =>
  (isO O M2 v0 8).bind fun _ =>
  xcl (f_Reader_signAt O f v0 x2 M2) fun x3 M3 =>
  (gJ O M3 v0 8 3).bind fun x4 =>
  (gJ O M3 v0 8 0).bind fun x5 =>
  if yw x4 < yw x5 then (
    if yw x3 < yw 97 then (
      f_Reader_goOn_106 O f v0 x3 M3
    ) else
    if yw 122 < yw x3 then (
      f_Reader_goOn_106 O f v0 x3 M3
    ) else
    (pJ M3 v0 8 5 0).bind fun M4 =>
    f_Reader_goOn_131 O f f v0 M4
  ) else
  (pJ M3 v0 8 5 3).bind fun M5 =>
  f_Reader_goOn_131 O f f v0 M5
set_option maxRecDepth 20000 in
theorem k_f_Reader_goOn_45 (O : Nat → Option va_E) (f d : Nat) (v0 : Nat) (M : xM) : xZ oU O (d + 1) 65 45 [(0, .ref v0)] [] M (f_Reader_goOn_45 O f v0 M) := by
  unfold f_Reader_goOn_45
  refine xZ.adv (me := xm65) hP_65 2 (pc' := 47) (lv' := [(0, .ref v0)]) (st' := [.ref v0, .ref v0]) rfl ?_
  refine xZ.k_gJ (me := xm65) hP_65 rfl (fun x1 => ?_)
  refine xZ.k_pJ (me := xm65) hP_65 rfl (fun M1 => ?_)
  refine xZ.adv (me := xm65) hP_65 2 (pc' := 55) (lv' := [(0, .ref v0)]) (st' := [.int (0 : Int32), .ref v0]) rfl ?_
  refine xZ.eqs (lv2 := [(0, .ref v0)]) (st2 := [.int (yw 0), .ref v0]) rfl (by simp only [yl_lit, yL_lit, yw_add, yw_sub, yw_mul, yw_neg, yl_add, yl_sub, yl_mul, cj_and, cj_or, cj_xor, cj_shl, cj_shr, cj_ushr, cj_div, cj_i2c, cj_i2b, cj_dc, ck_and, ck_or, ck_xor, ck_shl, ck_shr, ck_ushr, ck_i2l, ck_l2i, ck_cmp]) ?_
  refine xZ.k_pJ (me := xm65) hP_65 rfl (fun M2 => ?_)
  refine xZ.adv (me := xm65) hP_65 2 (pc' := 60) (lv' := [(0, .ref v0)]) (st' := [.ref v0, .ref v0]) rfl ?_
  refine xZ.k_gJ (me := xm65) hP_65 rfl (fun x2 => ?_)
  refine xZ.callv (κ := oJ) (av := [.int (yw x2)]) (rest := []) (st' := fun x3 => [.int (yw x3)]) (k0 := v0) (me := xm65) hP_65 rfl (Or.inl rfl) ⟨rfl, by decide⟩ rfl rfl (Nat.le_of_ble_eq_true rfl) (by decide) hP_66 (Nat.le_of_ble_eq_true rfl) (fun _ => rfl) (k_f_Reader_signAt O f (d + 0) v0 x2 M2) (fun x3 M3 => ?_)
  refine xZ.adv (me := xm65) hP_65 2 (pc' := 68) (lv' := [(1, .int (yw x3)), (0, .ref v0)]) (st' := [.ref v0]) rfl ?_
  refine xZ.k_gJ (me := xm65) hP_65 rfl (fun x4 => ?_)
  refine xZ.adv (me := xm65) hP_65 1 (pc' := 72) (lv' := [(1, .int (yw x3)), (0, .ref v0)]) (st' := [.ref v0, .int (yw x4)]) rfl ?_
  refine xZ.k_gJ (me := xm65) hP_65 rfl (fun x5 => ?_)
  refine xZ.jc_lt (me := xm65) hP_65 rfl (fun h1 => ?_) (fun h1 => ?_)
  · skip
    refine xZ.adv (me := xm65) hP_65 2 (pc' := 89) (lv' := [(1, .int (yw x3)), (0, .ref v0)]) (st' := [.int (97 : Int32), .int (yw x3)]) rfl ?_
    refine xZ.eqs (lv2 := [(1, .int (yw x3)), (0, .ref v0)]) (st2 := [.int (yw 97), .int (yw x3)]) rfl (by simp only [yl_lit, yL_lit, yw_add, yw_sub, yw_mul, yw_neg, yl_add, yl_sub, yl_mul, cj_and, cj_or, cj_xor, cj_shl, cj_shr, cj_ushr, cj_div, cj_i2c, cj_i2b, cj_dc, ck_and, ck_or, ck_xor, ck_shl, ck_shr, ck_ushr, ck_i2l, ck_l2i, ck_cmp]) ?_
    refine xZ.jc_lt (me := xm65) hP_65 rfl (fun h2 => ?_) (fun h2 => ?_)
    · skip
      exact xZ.sub (xsc (.tail _ (.head _)) (xsc (.head _) xsn)) (show ([1, 0] : List Nat).Nodup from by decide) (k_f_Reader_goOn_106 O f d v0 x3 M3)
    · skip
      refine xZ.adv (me := xm65) hP_65 2 (pc' := 95) (lv' := [(1, .int (yw x3)), (0, .ref v0)]) (st' := [.int (122 : Int32), .int (yw x3)]) rfl ?_
      refine xZ.eqs (lv2 := [(1, .int (yw x3)), (0, .ref v0)]) (st2 := [.int (yw 122), .int (yw x3)]) rfl (by simp only [yl_lit, yL_lit, yw_add, yw_sub, yw_mul, yw_neg, yl_add, yl_sub, yl_mul, cj_and, cj_or, cj_xor, cj_shl, cj_shr, cj_ushr, cj_div, cj_i2c, cj_i2b, cj_dc, ck_and, ck_or, ck_xor, ck_shl, ck_shr, ck_ushr, ck_i2l, ck_l2i, ck_cmp]) ?_
      refine xZ.jc_gt (me := xm65) hP_65 rfl (fun h3 => ?_) (fun h3 => ?_)
      · skip
        exact xZ.sub (xsc (.tail _ (.head _)) (xsc (.head _) xsn)) (show ([1, 0] : List Nat).Nodup from by decide) (k_f_Reader_goOn_106 O f d v0 x3 M3)
      · skip
        refine xZ.adv (me := xm65) hP_65 2 (pc' := 100) (lv' := [(1, .int (yw x3)), (0, .ref v0)]) (st' := [.int (0 : Int32), .ref v0]) rfl ?_
        refine xZ.eqs (lv2 := [(1, .int (yw x3)), (0, .ref v0)]) (st2 := [.int (yw 0), .ref v0]) rfl (by simp only [yl_lit, yL_lit, yw_add, yw_sub, yw_mul, yw_neg, yl_add, yl_sub, yl_mul, cj_and, cj_or, cj_xor, cj_shl, cj_shr, cj_ushr, cj_div, cj_i2c, cj_i2b, cj_dc, ck_and, ck_or, ck_xor, ck_shl, ck_shr, ck_ushr, ck_i2l, ck_l2i, ck_cmp]) ?_
        refine xZ.k_pJ (me := xm65) hP_65 rfl (fun M4 => ?_)
        refine xZ.adv (me := xm65) hP_65 1 (pc' := 131) (lv' := [(1, .int (yw x3)), (0, .ref v0)]) (st' := []) rfl ?_
        exact xZ.sub (xsc (.tail _ (.head _)) xsn) (show ([1, 0] : List Nat).Nodup from by decide) (k_f_Reader_goOn_131 O f d f v0 M4)
  · skip
    refine xZ.adv (me := xm65) hP_65 2 (pc' := 80) (lv' := [(1, .int (yw x3)), (0, .ref v0)]) (st' := [.int (3 : Int32), .ref v0]) rfl ?_
    refine xZ.eqs (lv2 := [(1, .int (yw x3)), (0, .ref v0)]) (st2 := [.int (yw 3), .ref v0]) rfl (by simp only [yl_lit, yL_lit, yw_add, yw_sub, yw_mul, yw_neg, yl_add, yl_sub, yl_mul, cj_and, cj_or, cj_xor, cj_shl, cj_shr, cj_ushr, cj_div, cj_i2c, cj_i2b, cj_dc, ck_and, ck_or, ck_xor, ck_shl, ck_shr, ck_ushr, ck_i2l, ck_l2i, ck_cmp]) ?_
    refine xZ.k_pJ (me := xm65) hP_65 rfl (fun M5 => ?_)
    refine xZ.adv (me := xm65) hP_65 1 (pc' := 131) (lv' := [(1, .int (yw x3)), (0, .ref v0)]) (st' := []) rfl ?_
    exact xZ.sub (xsc (.tail _ (.head _)) xsn) (show ([1, 0] : List Nat).Nodup from by decide) (k_f_Reader_goOn_131 O f d f v0 M5)
def f_Reader_goOn_8 (O : Nat → Option va_E) (f : Nat) : Nat → Nat → xM → Option (Unit × xM)
  | 0, _, _ => none
  | n + 1, v0, M =>
    (gJ O M v0 8 3).bind fun x1 =>
    (gJ O M v0 8 0).bind fun x2 =>
    if yw x2 ≤ yw x1 then (
      f_Reader_goOn_45 O f v0 M
    ) else
    (gJ O M v0 8 3).bind fun x3 =>
    (isO O M v0 8).bind fun _ =>
    xcl (f_Reader_signAt O f v0 x3 M) fun x4 M1 =>
    if yw x4 = yw 32 then (
      (gJ O M1 v0 8 3).bind fun x5 =>
      (pJ M1 v0 8 3 (x5 + 1)).bind fun M2 =>
      f_Reader_goOn_8 O f n v0 M2
    ) else
    f_Reader_goOn_45 O f v0 M1
set_option maxRecDepth 20000 in
theorem k_f_Reader_goOn_8 (O : Nat → Option va_E) (f d : Nat) : ∀ (n : Nat) (v0 : Nat) (M : xM), xZ oU O (d + 1) 65 8 [(0, .ref v0)] [] M (f_Reader_goOn_8 O f n v0 M) := by
  intro n
  induction n with
  | zero =>
    intro v0 M
    exact xZ.no
  | succ n ih =>
    intro v0 M
    unfold f_Reader_goOn_8
    refine xZ.adv (me := xm65) hP_65 1 (pc' := 9) (lv' := [(0, .ref v0)]) (st' := [.ref v0]) rfl ?_
    refine xZ.k_gJ (me := xm65) hP_65 rfl (fun x1 => ?_)
    refine xZ.adv (me := xm65) hP_65 1 (pc' := 13) (lv' := [(0, .ref v0)]) (st' := [.ref v0, .int (yw x1)]) rfl ?_
    refine xZ.k_gJ (me := xm65) hP_65 rfl (fun x2 => ?_)
    refine xZ.jc_ge (me := xm65) hP_65 rfl (fun h1 => ?_) (fun h1 => ?_)
    · skip
      exact (k_f_Reader_goOn_45 O f d v0 M)
    · skip
      refine xZ.adv (me := xm65) hP_65 2 (pc' := 21) (lv' := [(0, .ref v0)]) (st' := [.ref v0, .ref v0]) rfl ?_
      refine xZ.k_gJ (me := xm65) hP_65 rfl (fun x3 => ?_)
      refine xZ.callv (κ := oJ) (av := [.int (yw x3)]) (rest := []) (st' := fun x4 => [.int (yw x4)]) (k0 := v0) (me := xm65) hP_65 rfl (Or.inl rfl) ⟨rfl, by decide⟩ rfl rfl (Nat.le_of_ble_eq_true rfl) (by decide) hP_66 (Nat.le_of_ble_eq_true rfl) (fun _ => rfl) (k_f_Reader_signAt O f (d + 0) v0 x3 M) (fun x4 M1 => ?_)
      refine xZ.adv (me := xm65) hP_65 1 (pc' := 29) (lv' := [(0, .ref v0)]) (st' := [.int (32 : Int32), .int (yw x4)]) rfl ?_
      refine xZ.eqs (lv2 := [(0, .ref v0)]) (st2 := [.int (yw 32), .int (yw x4)]) rfl (by simp only [yl_lit, yL_lit, yw_add, yw_sub, yw_mul, yw_neg, yl_add, yl_sub, yl_mul, cj_and, cj_or, cj_xor, cj_shl, cj_shr, cj_ushr, cj_div, cj_i2c, cj_i2b, cj_dc, ck_and, ck_or, ck_xor, ck_shl, ck_shr, ck_ushr, ck_i2l, ck_l2i, ck_cmp]) ?_
      refine xZ.jc_ne (me := xm65) hP_65 rfl (fun h2 => ?_) (fun h2 => ?_)
      · skip
        refine xZ.adv (me := xm65) hP_65 2 (pc' := 34) (lv' := [(0, .ref v0)]) (st' := [.ref v0, .ref v0]) rfl ?_
        refine xZ.k_gJ (me := xm65) hP_65 rfl (fun x5 => ?_)
        refine xZ.adv (me := xm65) hP_65 2 (pc' := 39) (lv' := [(0, .ref v0)]) (st' := [.int ((yw x5) + (1 : Int32)), .ref v0]) rfl ?_
        refine xZ.eqs (lv2 := [(0, .ref v0)]) (st2 := [.int (yw (x5 + 1)), .ref v0]) rfl (by simp only [yl_lit, yL_lit, yw_add, yw_sub, yw_mul, yw_neg, yl_add, yl_sub, yl_mul, cj_and, cj_or, cj_xor, cj_shl, cj_shr, cj_ushr, cj_div, cj_i2c, cj_i2b, cj_dc, ck_and, ck_or, ck_xor, ck_shl, ck_shr, ck_ushr, ck_i2l, ck_l2i, ck_cmp]) ?_
        refine xZ.k_pJ (me := xm65) hP_65 rfl (fun M2 => ?_)
        refine xZ.adv (me := xm65) hP_65 1 (pc' := 8) (lv' := [(0, .ref v0)]) (st' := []) rfl ?_
        exact (ih v0 M2)
      · skip
        exact (k_f_Reader_goOn_45 O f d v0 M1)
def f_Reader_goOn (O : Nat → Option va_E) (f : Nat) (v0 : Nat) (M : xM) : Option (Unit × xM) :=
  (gJ O M v0 8 4).bind fun x1 =>
  (pJ M v0 8 3 x1).bind fun M1 =>
  f_Reader_goOn_8 O f f v0 M1
set_option maxRecDepth 20000 in
theorem k_f_Reader_goOn (O : Nat → Option va_E) (f d : Nat) (v0 : Nat) (M : xM) : xZ oU O (d + 1) 65 0 [(0, .ref v0)] [] M (f_Reader_goOn O f v0 M) := by
  unfold f_Reader_goOn
  refine xZ.adv (me := xm65) hP_65 2 (pc' := 2) (lv' := [(0, .ref v0)]) (st' := [.ref v0, .ref v0]) rfl ?_
  refine xZ.k_gJ (me := xm65) hP_65 rfl (fun x1 => ?_)
  refine xZ.k_pJ (me := xm65) hP_65 rfl (fun M1 => ?_)
  exact (k_f_Reader_goOn_8 O f d f v0 M1)
def f_Reader_isWord_27 (O : Nat → Option va_E) (f : Nat) : Nat → Nat → Nat → Int → xM → Option (Int × xM)
  | 0, _, _, _, _ => none
  | n + 1, v0, v1, v2, M =>
    (isO O M v1 0).bind fun _ =>
    xcl (f_String_length O f v1 M) fun x1 M1 =>
    if yw x1 ≤ yw v2 then (
      some (1, M1)
    ) else
    (gJ O M1 v0 8 3).bind fun x2 =>
    (isO O M1 v0 8).bind fun _ =>
    xcl (f_Reader_signAt O f v0 (x2 + v2) M1) fun x3 M2 =>
    (isO O M2 v1 0).bind fun _ =>
    xcl (f_String_charAt O f v1 v2 M2) fun x4 M3 =>
    if yw x3 = yw x4 then (
      f_Reader_isWord_27 O f n v0 v1 (v2 + 1) M3
    ) else
    some (0, M3)
set_option maxRecDepth 20000 in
theorem k_f_Reader_isWord_27 (O : Nat → Option va_E) (f d : Nat) : ∀ (n : Nat) (v0 : Nat) (v1 : Nat) (v2 : Int) (M : xM), xZ oJ O (d + 4) 69 27 [(0, .ref v0), (1, .ref v1), (2, .int (yw v2))] [] M (f_Reader_isWord_27 O f n v0 v1 v2 M) := by
  intro n
  induction n with
  | zero =>
    intro v0 v1 v2 M
    exact xZ.no
  | succ n ih =>
    intro v0 v1 v2 M
    unfold f_Reader_isWord_27
    refine xZ.adv (me := xm69) hP_69 2 (pc' := 29) (lv' := [(0, .ref v0), (1, .ref v1), (2, .int (yw v2))]) (st' := [.ref v1, .int (yw v2)]) rfl ?_
    refine xZ.callv (κ := oJ) (av := []) (rest := [.int (yw v2)]) (st' := fun x1 => [.int (yw x1), .int (yw v2)]) (k0 := v1) (me := xm69) hP_69 rfl (Or.inl rfl) ⟨rfl, by decide⟩ rfl rfl (Nat.le_of_ble_eq_true rfl) (by decide) hP_267 (Nat.le_of_ble_eq_true rfl) (fun _ => rfl) (k_f_String_length O f (d + 2) v1 M) (fun x1 M1 => ?_)
    refine xZ.jc_ge (me := xm69) hP_69 rfl (fun h1 => ?_) (fun h1 => ?_)
    · skip
      refine xZ.adv (me := xm69) hP_69 1 (pc' := 62) (lv' := [(0, .ref v0), (1, .ref v1), (2, .int (yw v2))]) (st' := [.int (1 : Int32)]) rfl ?_
      refine xZ.eqs (lv2 := [(0, .ref v0), (1, .ref v1), (2, .int (yw v2))]) (st2 := [.int (yw 1)]) rfl (by simp only [yl_lit, yL_lit, yw_add, yw_sub, yw_mul, yw_neg, yl_add, yl_sub, yl_mul, cj_and, cj_or, cj_xor, cj_shl, cj_shr, cj_ushr, cj_div, cj_i2c, cj_i2b, cj_dc, ck_and, ck_or, ck_xor, ck_shl, ck_shr, ck_ushr, ck_i2l, ck_l2i, ck_cmp]) ?_
      exact xZ.jrete (me := xm69) hP_69 rfl rfl rfl
    · skip
      refine xZ.adv (me := xm69) hP_69 2 (pc' := 37) (lv' := [(0, .ref v0), (1, .ref v1), (2, .int (yw v2))]) (st' := [.ref v0, .ref v0]) rfl ?_
      refine xZ.k_gJ (me := xm69) hP_69 rfl (fun x2 => ?_)
      refine xZ.adv (me := xm69) hP_69 2 (pc' := 42) (lv' := [(0, .ref v0), (1, .ref v1), (2, .int (yw v2))]) (st' := [.int ((yw x2) + (yw v2)), .ref v0]) rfl ?_
      refine xZ.eqs (lv2 := [(0, .ref v0), (1, .ref v1), (2, .int (yw v2))]) (st2 := [.int (yw (x2 + v2)), .ref v0]) rfl (by simp only [yl_lit, yL_lit, yw_add, yw_sub, yw_mul, yw_neg, yl_add, yl_sub, yl_mul, cj_and, cj_or, cj_xor, cj_shl, cj_shr, cj_ushr, cj_div, cj_i2c, cj_i2b, cj_dc, ck_and, ck_or, ck_xor, ck_shl, ck_shr, ck_ushr, ck_i2l, ck_l2i, ck_cmp]) ?_
      refine xZ.callv (κ := oJ) (av := [.int (yw (x2 + v2))]) (rest := []) (st' := fun x3 => [.int (yw x3)]) (k0 := v0) (me := xm69) hP_69 rfl (Or.inl rfl) ⟨rfl, by decide⟩ rfl rfl (Nat.le_of_ble_eq_true rfl) (by decide) hP_66 (Nat.le_of_ble_eq_true rfl) (fun _ => rfl) (k_f_Reader_signAt O f (d + 3) v0 (x2 + v2) M1) (fun x3 M2 => ?_)
      refine xZ.adv (me := xm69) hP_69 2 (pc' := 47) (lv' := [(0, .ref v0), (1, .ref v1), (2, .int (yw v2))]) (st' := [.int (yw v2), .ref v1, .int (yw x3)]) rfl ?_
      refine xZ.callv (κ := oJ) (av := [.int (yw v2)]) (rest := [.int (yw x3)]) (st' := fun x4 => [.int (yw x4), .int (yw x3)]) (k0 := v1) (me := xm69) hP_69 rfl (Or.inl rfl) ⟨rfl, by decide⟩ rfl rfl (Nat.le_of_ble_eq_true rfl) (by decide) hP_289 (Nat.le_of_ble_eq_true rfl) (fun _ => rfl) (k_f_String_charAt O f (d + 0) v1 v2 M2) (fun x4 M3 => ?_)
      refine xZ.jc_eq (me := xm69) hP_69 rfl (fun h2 => ?_) (fun h2 => ?_)
      · skip
        refine xZ.adv (me := xm69) hP_69 2 (pc' := 27) (lv' := [(2, .int ((yw v2) + (1 : Int32))), (0, .ref v0), (1, .ref v1)]) (st' := []) rfl ?_
        refine xZ.eqs (lv2 := [(2, .int (yw (v2 + 1))), (0, .ref v0), (1, .ref v1)]) (st2 := []) (by simp only [yl_lit, yL_lit, yw_add, yw_sub, yw_mul, yw_neg, yl_add, yl_sub, yl_mul, cj_and, cj_or, cj_xor, cj_shl, cj_shr, cj_ushr, cj_div, cj_i2c, cj_i2b, cj_dc, ck_and, ck_or, ck_xor, ck_shl, ck_shr, ck_ushr, ck_i2l, ck_l2i, ck_cmp]) rfl ?_
        exact xZ.sub (xsc (.tail _ (.head _)) (xsc (.tail _ (.tail _ (.head _))) (xsc (.head _) xsn))) (show ([2, 0, 1] : List Nat).Nodup from by decide) (ih v0 v1 (v2 + 1) M3)
      · skip
        refine xZ.adv (me := xm69) hP_69 1 (pc' := 54) (lv' := [(0, .ref v0), (1, .ref v1), (2, .int (yw v2))]) (st' := [.int (0 : Int32)]) rfl ?_
        refine xZ.eqs (lv2 := [(0, .ref v0), (1, .ref v1), (2, .int (yw v2))]) (st2 := [.int (yw 0)]) rfl (by simp only [yl_lit, yL_lit, yw_add, yw_sub, yw_mul, yw_neg, yl_add, yl_sub, yl_mul, cj_and, cj_or, cj_xor, cj_shl, cj_shr, cj_ushr, cj_div, cj_i2c, cj_i2b, cj_dc, ck_and, ck_or, ck_xor, ck_shl, ck_shr, ck_ushr, ck_i2l, ck_l2i, ck_cmp]) ?_
        exact xZ.jrete (me := xm69) hP_69 rfl rfl rfl
def f_Reader_isWord (O : Nat → Option va_E) (f : Nat) (v0 : Nat) (v1 : Nat) (M : xM) : Option (Int × xM) :=
  (gJ O M v0 8 5).bind fun x1 =>
  if yw x1 = yw 0 then (
    (gJ O M v0 8 4).bind fun x2 =>
    (gJ O M v0 8 3).bind fun x3 =>
    (isO O M v1 0).bind fun _ =>
    xcl (f_String_length O f v1 M) fun x4 M1 =>
    if yw (x2 - x3) = yw x4 then (
      f_Reader_isWord_27 O f f v0 v1 0 M1
    ) else
    some (0, M1)
  ) else
  some (0, M)
set_option maxRecDepth 20000 in
theorem k_f_Reader_isWord (O : Nat → Option va_E) (f d : Nat) (v0 : Nat) (v1 : Nat) (M : xM) : xZ oJ O (d + 4) 69 0 [(0, .ref v0), (1, .ref v1)] [] M (f_Reader_isWord O f v0 v1 M) := by
  unfold f_Reader_isWord
  refine xZ.adv (me := xm69) hP_69 1 (pc' := 1) (lv' := [(0, .ref v0), (1, .ref v1)]) (st' := [.ref v0]) rfl ?_
  refine xZ.k_gJ (me := xm69) hP_69 rfl (fun x1 => ?_)
  refine xZ.jf_ne (me := xm69) hP_69 rfl (fun h1 => ?_) (fun h1 => ?_)
  · skip
    refine xZ.adv (me := xm69) hP_69 1 (pc' := 8) (lv' := [(0, .ref v0), (1, .ref v1)]) (st' := [.ref v0]) rfl ?_
    refine xZ.k_gJ (me := xm69) hP_69 rfl (fun x2 => ?_)
    refine xZ.adv (me := xm69) hP_69 1 (pc' := 12) (lv' := [(0, .ref v0), (1, .ref v1)]) (st' := [.ref v0, .int (yw x2)]) rfl ?_
    refine xZ.k_gJ (me := xm69) hP_69 rfl (fun x3 => ?_)
    refine xZ.adv (me := xm69) hP_69 2 (pc' := 17) (lv' := [(0, .ref v0), (1, .ref v1)]) (st' := [.ref v1, .int ((yw x2) - (yw x3))]) rfl ?_
    refine xZ.eqs (lv2 := [(0, .ref v0), (1, .ref v1)]) (st2 := [.ref v1, .int (yw (x2 - x3))]) rfl (by simp only [yl_lit, yL_lit, yw_add, yw_sub, yw_mul, yw_neg, yl_add, yl_sub, yl_mul, cj_and, cj_or, cj_xor, cj_shl, cj_shr, cj_ushr, cj_div, cj_i2c, cj_i2b, cj_dc, ck_and, ck_or, ck_xor, ck_shl, ck_shr, ck_ushr, ck_i2l, ck_l2i, ck_cmp]) ?_
    refine xZ.callv (κ := oJ) (av := []) (rest := [.int (yw (x2 - x3))]) (st' := fun x4 => [.int (yw x4), .int (yw (x2 - x3))]) (k0 := v1) (me := xm69) hP_69 rfl (Or.inl rfl) ⟨rfl, by decide⟩ rfl rfl (Nat.le_of_ble_eq_true rfl) (by decide) hP_267 (Nat.le_of_ble_eq_true rfl) (fun _ => rfl) (k_f_String_length O f (d + 2) v1 M) (fun x4 M1 => ?_)
    refine xZ.jc_eq (me := xm69) hP_69 rfl (fun h2 => ?_) (fun h2 => ?_)
    · skip
      refine xZ.adv (me := xm69) hP_69 2 (pc' := 27) (lv' := [(2, .int (0 : Int32)), (0, .ref v0), (1, .ref v1)]) (st' := []) rfl ?_
      refine xZ.eqs (lv2 := [(2, .int (yw 0)), (0, .ref v0), (1, .ref v1)]) (st2 := []) (by simp only [yl_lit, yL_lit, yw_add, yw_sub, yw_mul, yw_neg, yl_add, yl_sub, yl_mul, cj_and, cj_or, cj_xor, cj_shl, cj_shr, cj_ushr, cj_div, cj_i2c, cj_i2b, cj_dc, ck_and, ck_or, ck_xor, ck_shl, ck_shr, ck_ushr, ck_i2l, ck_l2i, ck_cmp]) rfl ?_
      exact xZ.sub (xsc (.tail _ (.head _)) (xsc (.tail _ (.tail _ (.head _))) (xsc (.head _) xsn))) (show ([2, 0, 1] : List Nat).Nodup from by decide) (k_f_Reader_isWord_27 O f d f v0 v1 0 M1)
    · skip
      refine xZ.adv (me := xm69) hP_69 1 (pc' := 24) (lv' := [(0, .ref v0), (1, .ref v1)]) (st' := [.int (0 : Int32)]) rfl ?_
      refine xZ.eqs (lv2 := [(0, .ref v0), (1, .ref v1)]) (st2 := [.int (yw 0)]) rfl (by simp only [yl_lit, yL_lit, yw_add, yw_sub, yw_mul, yw_neg, yl_add, yl_sub, yl_mul, cj_and, cj_or, cj_xor, cj_shl, cj_shr, cj_ushr, cj_div, cj_i2c, cj_i2b, cj_dc, ck_and, ck_or, ck_xor, ck_shl, ck_shr, ck_ushr, ck_i2l, ck_l2i, ck_cmp]) ?_
      exact xZ.jrete (me := xm69) hP_69 rfl rfl rfl
  · skip
    refine xZ.adv (me := xm69) hP_69 1 (pc' := 24) (lv' := [(0, .ref v0), (1, .ref v1)]) (st' := [.int (0 : Int32)]) rfl ?_
    refine xZ.eqs (lv2 := [(0, .ref v0), (1, .ref v1)]) (st2 := [.int (yw 0)]) rfl (by simp only [yl_lit, yL_lit, yw_add, yw_sub, yw_mul, yw_neg, yl_add, yl_sub, yl_mul, cj_and, cj_or, cj_xor, cj_shl, cj_shr, cj_ushr, cj_div, cj_i2c, cj_i2b, cj_dc, ck_and, ck_or, ck_xor, ck_shl, ck_shr, ck_ushr, ck_i2l, ck_l2i, ck_cmp]) ?_
    exact xZ.jrete (me := xm69) hP_69 rfl rfl rfl
def f_Reader_takes (O : Nat → Option va_E) (f : Nat) (v0 : Nat) (v1 : Nat) (M : xM) : Option (Int × xM) :=
  (isO O M v0 8).bind fun _ =>
  xcl (f_Reader_isWord O f v0 v1 M) fun x1 M1 =>
  if yw x1 = yw 0 then (
    some (0, M1)
  ) else
  (isO O M1 v0 8).bind fun _ =>
  xcl (f_Reader_goOn O f v0 M1) fun _ M2 =>
  some (1, M2)
set_option maxRecDepth 20000 in
theorem k_f_Reader_takes (O : Nat → Option va_E) (f d : Nat) (v0 : Nat) (v1 : Nat) (M : xM) : xZ oJ O (d + 5) 68 0 [(0, .ref v0), (1, .ref v1)] [] M (f_Reader_takes O f v0 v1 M) := by
  unfold f_Reader_takes
  refine xZ.adv (me := xm68) hP_68 2 (pc' := 2) (lv' := [(0, .ref v0), (1, .ref v1)]) (st' := [.ref v1, .ref v0]) rfl ?_
  refine xZ.callv (κ := oJ) (av := [.ref v1]) (rest := []) (st' := fun x1 => [.int (yw x1)]) (k0 := v0) (me := xm68) hP_68 rfl (Or.inl rfl) ⟨rfl, by decide⟩ rfl rfl (Nat.le_of_ble_eq_true rfl) (by decide) hP_69 (Nat.le_of_ble_eq_true rfl) (fun _ => rfl) (k_f_Reader_isWord O f (d + 0) v0 v1 M) (fun x1 M1 => ?_)
  refine xZ.jf_ne (me := xm68) hP_68 rfl (fun h1 => ?_) (fun h1 => ?_)
  · skip
    refine xZ.adv (me := xm68) hP_68 1 (pc' := 9) (lv' := [(0, .ref v0), (1, .ref v1)]) (st' := [.int (0 : Int32)]) rfl ?_
    refine xZ.eqs (lv2 := [(0, .ref v0), (1, .ref v1)]) (st2 := [.int (yw 0)]) rfl (by simp only [yl_lit, yL_lit, yw_add, yw_sub, yw_mul, yw_neg, yl_add, yl_sub, yl_mul, cj_and, cj_or, cj_xor, cj_shl, cj_shr, cj_ushr, cj_div, cj_i2c, cj_i2b, cj_dc, ck_and, ck_or, ck_xor, ck_shl, ck_shr, ck_ushr, ck_i2l, ck_l2i, ck_cmp]) ?_
    exact xZ.jrete (me := xm68) hP_68 rfl rfl rfl
  · skip
    refine xZ.adv (me := xm68) hP_68 1 (pc' := 11) (lv' := [(0, .ref v0), (1, .ref v1)]) (st' := [.ref v0]) rfl ?_
    refine xZ.callv (κ := oU) (av := []) (rest := []) (st' := fun _ => []) (k0 := v0) (me := xm68) hP_68 rfl (Or.inl rfl) ⟨rfl, by decide⟩ rfl rfl (Nat.le_of_ble_eq_true rfl) (by decide) hP_65 (Nat.le_of_ble_eq_true rfl) (fun _ => rfl) (k_f_Reader_goOn O f (d + 3) v0 M1) (fun _ M2 => ?_)
    refine xZ.adv (me := xm68) hP_68 1 (pc' := 15) (lv' := [(0, .ref v0), (1, .ref v1)]) (st' := [.int (1 : Int32)]) rfl ?_
    refine xZ.eqs (lv2 := [(0, .ref v0), (1, .ref v1)]) (st2 := [.int (yw 1)]) rfl (by simp only [yl_lit, yL_lit, yw_add, yw_sub, yw_mul, yw_neg, yl_add, yl_sub, yl_mul, cj_and, cj_or, cj_xor, cj_shl, cj_shr, cj_ushr, cj_div, cj_i2c, cj_i2b, cj_dc, ck_and, ck_or, ck_xor, ck_shl, ck_shr, ck_ushr, ck_i2l, ck_l2i, ck_cmp]) ?_
    exact xZ.jrete (me := xm68) hP_68 rfl rfl rfl
def f_Reader_isNumber (O : Nat → Option va_E) (f : Nat) (v0 : Nat) (v1 : Int) (v2 : Int) (M : xM) : Option (Int × xM) :=
  (gJ O M v0 8 5).bind fun x1 =>
  if yw x1 = yw 1 then (
    (gJ O M v0 8 6).bind fun x2 =>
    if yw x2 < yw v1 then (
      some (0, M)
    ) else
    (gJ O M v0 8 6).bind fun x3 =>
    if yw v2 < yw x3 then (
      some (0, M)
    ) else
    some (1, M)
  ) else
  some (0, M)
set_option maxRecDepth 20000 in
theorem k_f_Reader_isNumber (O : Nat → Option va_E) (f d : Nat) (v0 : Nat) (v1 : Int) (v2 : Int) (M : xM) : xZ oJ O (d + 0) 70 0 [(0, .ref v0), (1, .int (yw v1)), (2, .int (yw v2))] [] M (f_Reader_isNumber O f v0 v1 v2 M) := by
  unfold f_Reader_isNumber
  refine xZ.adv (me := xm70) hP_70 1 (pc' := 1) (lv' := [(0, .ref v0), (1, .int (yw v1)), (2, .int (yw v2))]) (st' := [.ref v0]) rfl ?_
  refine xZ.k_gJ (me := xm70) hP_70 rfl (fun x1 => ?_)
  refine xZ.adv (me := xm70) hP_70 1 (pc' := 5) (lv' := [(0, .ref v0), (1, .int (yw v1)), (2, .int (yw v2))]) (st' := [.int (1 : Int32), .int (yw x1)]) rfl ?_
  refine xZ.eqs (lv2 := [(0, .ref v0), (1, .int (yw v1)), (2, .int (yw v2))]) (st2 := [.int (yw 1), .int (yw x1)]) rfl (by simp only [yl_lit, yL_lit, yw_add, yw_sub, yw_mul, yw_neg, yl_add, yl_sub, yl_mul, cj_and, cj_or, cj_xor, cj_shl, cj_shr, cj_ushr, cj_div, cj_i2c, cj_i2b, cj_dc, ck_and, ck_or, ck_xor, ck_shl, ck_shr, ck_ushr, ck_i2l, ck_l2i, ck_cmp]) ?_
  refine xZ.jc_ne (me := xm70) hP_70 rfl (fun h1 => ?_) (fun h1 => ?_)
  · skip
    refine xZ.adv (me := xm70) hP_70 1 (pc' := 9) (lv' := [(0, .ref v0), (1, .int (yw v1)), (2, .int (yw v2))]) (st' := [.ref v0]) rfl ?_
    refine xZ.k_gJ (me := xm70) hP_70 rfl (fun x2 => ?_)
    refine xZ.adv (me := xm70) hP_70 1 (pc' := 13) (lv' := [(0, .ref v0), (1, .int (yw v1)), (2, .int (yw v2))]) (st' := [.int (yw v1), .int (yw x2)]) rfl ?_
    refine xZ.jc_lt (me := xm70) hP_70 rfl (fun h2 => ?_) (fun h2 => ?_)
    · skip
      refine xZ.adv (me := xm70) hP_70 1 (pc' := 29) (lv' := [(0, .ref v0), (1, .int (yw v1)), (2, .int (yw v2))]) (st' := [.int (0 : Int32)]) rfl ?_
      refine xZ.eqs (lv2 := [(0, .ref v0), (1, .int (yw v1)), (2, .int (yw v2))]) (st2 := [.int (yw 0)]) rfl (by simp only [yl_lit, yL_lit, yw_add, yw_sub, yw_mul, yw_neg, yl_add, yl_sub, yl_mul, cj_and, cj_or, cj_xor, cj_shl, cj_shr, cj_ushr, cj_div, cj_i2c, cj_i2b, cj_dc, ck_and, ck_or, ck_xor, ck_shl, ck_shr, ck_ushr, ck_i2l, ck_l2i, ck_cmp]) ?_
      exact xZ.jrete (me := xm70) hP_70 rfl rfl rfl
    · skip
      refine xZ.adv (me := xm70) hP_70 1 (pc' := 17) (lv' := [(0, .ref v0), (1, .int (yw v1)), (2, .int (yw v2))]) (st' := [.ref v0]) rfl ?_
      refine xZ.k_gJ (me := xm70) hP_70 rfl (fun x3 => ?_)
      refine xZ.adv (me := xm70) hP_70 1 (pc' := 21) (lv' := [(0, .ref v0), (1, .int (yw v1)), (2, .int (yw v2))]) (st' := [.int (yw v2), .int (yw x3)]) rfl ?_
      refine xZ.jc_gt (me := xm70) hP_70 rfl (fun h3 => ?_) (fun h3 => ?_)
      · skip
        refine xZ.adv (me := xm70) hP_70 1 (pc' := 29) (lv' := [(0, .ref v0), (1, .int (yw v1)), (2, .int (yw v2))]) (st' := [.int (0 : Int32)]) rfl ?_
        refine xZ.eqs (lv2 := [(0, .ref v0), (1, .int (yw v1)), (2, .int (yw v2))]) (st2 := [.int (yw 0)]) rfl (by simp only [yl_lit, yL_lit, yw_add, yw_sub, yw_mul, yw_neg, yl_add, yl_sub, yl_mul, cj_and, cj_or, cj_xor, cj_shl, cj_shr, cj_ushr, cj_div, cj_i2c, cj_i2b, cj_dc, ck_and, ck_or, ck_xor, ck_shl, ck_shr, ck_ushr, ck_i2l, ck_l2i, ck_cmp]) ?_
        exact xZ.jrete (me := xm70) hP_70 rfl rfl rfl
      · skip
        refine xZ.adv (me := xm70) hP_70 2 (pc' := 29) (lv' := [(0, .ref v0), (1, .int (yw v1)), (2, .int (yw v2))]) (st' := [.int (1 : Int32)]) rfl ?_
        refine xZ.eqs (lv2 := [(0, .ref v0), (1, .int (yw v1)), (2, .int (yw v2))]) (st2 := [.int (yw 1)]) rfl (by simp only [yl_lit, yL_lit, yw_add, yw_sub, yw_mul, yw_neg, yl_add, yl_sub, yl_mul, cj_and, cj_or, cj_xor, cj_shl, cj_shr, cj_ushr, cj_div, cj_i2c, cj_i2b, cj_dc, ck_and, ck_or, ck_xor, ck_shl, ck_shr, ck_ushr, ck_i2l, ck_l2i, ck_cmp]) ?_
        exact xZ.jrete (me := xm70) hP_70 rfl rfl rfl
  · skip
    refine xZ.adv (me := xm70) hP_70 1 (pc' := 29) (lv' := [(0, .ref v0), (1, .int (yw v1)), (2, .int (yw v2))]) (st' := [.int (0 : Int32)]) rfl ?_
    refine xZ.eqs (lv2 := [(0, .ref v0), (1, .int (yw v1)), (2, .int (yw v2))]) (st2 := [.int (yw 0)]) rfl (by simp only [yl_lit, yL_lit, yw_add, yw_sub, yw_mul, yw_neg, yl_add, yl_sub, yl_mul, cj_and, cj_or, cj_xor, cj_shl, cj_shr, cj_ushr, cj_div, cj_i2c, cj_i2b, cj_dc, ck_and, ck_or, ck_xor, ck_shl, ck_shr, ck_ushr, ck_i2l, ck_l2i, ck_cmp]) ?_
    exact xZ.jrete (me := xm70) hP_70 rfl rfl rfl
def f_Reader_dayName_24 (O : Nat → Option va_E) (f : Nat) : Nat → Nat → Int → xM → Option (Int × xM)
  | 0, _, _, _ => none
  | n + 1, v0, v1, M =>
    if yw 7 ≤ yw v1 then (
      some ((-1), M)
    ) else
    (gJ O M v0 8 3).bind fun x1 =>
    (isO O M v0 8).bind fun _ =>
    xcl (f_Reader_signAt O f v0 x1 M) fun x2 M1 =>
    (isO O M1 1000000064 0).bind fun _ =>
    xcl (f_String_charAt O f 1000000064 (2 * v1) M1) fun x3 M2 =>
    if yw x2 = yw x3 then (
      (gJ O M2 v0 8 3).bind fun x4 =>
      (isO O M2 v0 8).bind fun _ =>
      xcl (f_Reader_signAt O f v0 (x4 + 1) M2) fun x5 M3 =>
      (isO O M3 1000000064 0).bind fun _ =>
      xcl (f_String_charAt O f 1000000064 ((2 * v1) + 1) M3) fun x6 M4 =>
      if yw x5 = yw x6 then (
        some (v1, M4)
      ) else
      f_Reader_dayName_24 O f n v0 (v1 + 1) M4
    ) else
    f_Reader_dayName_24 O f n v0 (v1 + 1) M2
set_option maxRecDepth 20000 in
theorem k_f_Reader_dayName_24 (O : Nat → Option va_E) (f d : Nat) : ∀ (n : Nat) (v0 : Nat) (v1 : Int) (M : xM), xZ oJ O (d + 4) 73 24 [(0, .ref v0), (1, .int (yw v1))] [] M (f_Reader_dayName_24 O f n v0 v1 M) := by
  intro n
  induction n with
  | zero =>
    intro v0 v1 M
    exact xZ.no
  | succ n ih =>
    intro v0 v1 M
    unfold f_Reader_dayName_24
    refine xZ.adv (me := xm73) hP_73 2 (pc' := 27) (lv' := [(0, .ref v0), (1, .int (yw v1))]) (st' := [.int (7 : Int32), .int (yw v1)]) rfl ?_
    refine xZ.eqs (lv2 := [(0, .ref v0), (1, .int (yw v1))]) (st2 := [.int (yw 7), .int (yw v1)]) rfl (by simp only [yl_lit, yL_lit, yw_add, yw_sub, yw_mul, yw_neg, yl_add, yl_sub, yl_mul, cj_and, cj_or, cj_xor, cj_shl, cj_shr, cj_ushr, cj_div, cj_i2c, cj_i2b, cj_dc, ck_and, ck_or, ck_xor, ck_shl, ck_shr, ck_ushr, ck_i2l, ck_l2i, ck_cmp]) ?_
    refine xZ.jc_ge (me := xm73) hP_73 rfl (fun h1 => ?_) (fun h1 => ?_)
    · skip
      refine xZ.adv (me := xm73) hP_73 1 (pc' := 81) (lv' := [(0, .ref v0), (1, .int (yw v1))]) (st' := [.int (-1 : Int32)]) rfl ?_
      refine xZ.eqs (lv2 := [(0, .ref v0), (1, .int (yw v1))]) (st2 := [.int (yw (-1))]) rfl (by simp only [yl_lit, yL_lit, yw_add, yw_sub, yw_mul, yw_neg, yl_add, yl_sub, yl_mul, cj_and, cj_or, cj_xor, cj_shl, cj_shr, cj_ushr, cj_div, cj_i2c, cj_i2b, cj_dc, ck_and, ck_or, ck_xor, ck_shl, ck_shr, ck_ushr, ck_i2l, ck_l2i, ck_cmp]) ?_
      exact xZ.jreti (me := xm73) hP_73 rfl rfl
    · skip
      refine xZ.adv (me := xm73) hP_73 2 (pc' := 32) (lv' := [(0, .ref v0), (1, .int (yw v1))]) (st' := [.ref v0, .ref v0]) rfl ?_
      refine xZ.k_gJ (me := xm73) hP_73 rfl (fun x1 => ?_)
      refine xZ.callv (κ := oJ) (av := [.int (yw x1)]) (rest := []) (st' := fun x2 => [.int (yw x2)]) (k0 := v0) (me := xm73) hP_73 rfl (Or.inl rfl) ⟨rfl, by decide⟩ rfl rfl (Nat.le_of_ble_eq_true rfl) (by decide) hP_66 (Nat.le_of_ble_eq_true rfl) (fun _ => rfl) (k_f_Reader_signAt O f (d + 3) v0 x1 M) (fun x2 M1 => ?_)
      refine xZ.adv (me := xm73) hP_73 4 (pc' := 43) (lv' := [(0, .ref v0), (1, .int (yw v1))]) (st' := [.int ((2 : Int32) * (yw v1)), .ref 1000000064, .int (yw x2)]) rfl ?_
      refine xZ.eqs (lv2 := [(0, .ref v0), (1, .int (yw v1))]) (st2 := [.int (yw (2 * v1)), .ref 1000000064, .int (yw x2)]) rfl (by simp only [yl_lit, yL_lit, yw_add, yw_sub, yw_mul, yw_neg, yl_add, yl_sub, yl_mul, cj_and, cj_or, cj_xor, cj_shl, cj_shr, cj_ushr, cj_div, cj_i2c, cj_i2b, cj_dc, ck_and, ck_or, ck_xor, ck_shl, ck_shr, ck_ushr, ck_i2l, ck_l2i, ck_cmp]) ?_
      refine xZ.callv (κ := oJ) (av := [.int (yw (2 * v1))]) (rest := [.int (yw x2)]) (st' := fun x3 => [.int (yw x3), .int (yw x2)]) (k0 := 1000000064) (me := xm73) hP_73 rfl (Or.inl rfl) ⟨rfl, by decide⟩ rfl rfl (Nat.le_of_ble_eq_true rfl) (by decide) hP_289 (Nat.le_of_ble_eq_true rfl) (fun _ => rfl) (k_f_String_charAt O f (d + 0) 1000000064 (2 * v1) M1) (fun x3 M2 => ?_)
      refine xZ.jc_ne (me := xm73) hP_73 rfl (fun h2 => ?_) (fun h2 => ?_)
      · skip
        refine xZ.adv (me := xm73) hP_73 2 (pc' := 51) (lv' := [(0, .ref v0), (1, .int (yw v1))]) (st' := [.ref v0, .ref v0]) rfl ?_
        refine xZ.k_gJ (me := xm73) hP_73 rfl (fun x4 => ?_)
        refine xZ.adv (me := xm73) hP_73 2 (pc' := 56) (lv' := [(0, .ref v0), (1, .int (yw v1))]) (st' := [.int ((yw x4) + (1 : Int32)), .ref v0]) rfl ?_
        refine xZ.eqs (lv2 := [(0, .ref v0), (1, .int (yw v1))]) (st2 := [.int (yw (x4 + 1)), .ref v0]) rfl (by simp only [yl_lit, yL_lit, yw_add, yw_sub, yw_mul, yw_neg, yl_add, yl_sub, yl_mul, cj_and, cj_or, cj_xor, cj_shl, cj_shr, cj_ushr, cj_div, cj_i2c, cj_i2b, cj_dc, ck_and, ck_or, ck_xor, ck_shl, ck_shr, ck_ushr, ck_i2l, ck_l2i, ck_cmp]) ?_
        refine xZ.callv (κ := oJ) (av := [.int (yw (x4 + 1))]) (rest := []) (st' := fun x5 => [.int (yw x5)]) (k0 := v0) (me := xm73) hP_73 rfl (Or.inl rfl) ⟨rfl, by decide⟩ rfl rfl (Nat.le_of_ble_eq_true rfl) (by decide) hP_66 (Nat.le_of_ble_eq_true rfl) (fun _ => rfl) (k_f_Reader_signAt O f (d + 3) v0 (x4 + 1) M2) (fun x5 M3 => ?_)
        refine xZ.adv (me := xm73) hP_73 6 (pc' := 66) (lv' := [(0, .ref v0), (1, .int (yw v1))]) (st' := [.int (((2 : Int32) * (yw v1)) + (1 : Int32)), .ref 1000000064, .int (yw x5)]) rfl ?_
        refine xZ.eqs (lv2 := [(0, .ref v0), (1, .int (yw v1))]) (st2 := [.int (yw ((2 * v1) + 1)), .ref 1000000064, .int (yw x5)]) rfl (by simp only [yl_lit, yL_lit, yw_add, yw_sub, yw_mul, yw_neg, yl_add, yl_sub, yl_mul, cj_and, cj_or, cj_xor, cj_shl, cj_shr, cj_ushr, cj_div, cj_i2c, cj_i2b, cj_dc, ck_and, ck_or, ck_xor, ck_shl, ck_shr, ck_ushr, ck_i2l, ck_l2i, ck_cmp]) ?_
        refine xZ.callv (κ := oJ) (av := [.int (yw ((2 * v1) + 1))]) (rest := [.int (yw x5)]) (st' := fun x6 => [.int (yw x6), .int (yw x5)]) (k0 := 1000000064) (me := xm73) hP_73 rfl (Or.inl rfl) ⟨rfl, by decide⟩ rfl rfl (Nat.le_of_ble_eq_true rfl) (by decide) hP_289 (Nat.le_of_ble_eq_true rfl) (fun _ => rfl) (k_f_String_charAt O f (d + 0) 1000000064 ((2 * v1) + 1) M3) (fun x6 M4 => ?_)
        refine xZ.jc_ne (me := xm73) hP_73 rfl (fun h3 => ?_) (fun h3 => ?_)
        · skip
          refine xZ.adv (me := xm73) hP_73 1 (pc' := 73) (lv' := [(0, .ref v0), (1, .int (yw v1))]) (st' := [.int (yw v1)]) rfl ?_
          exact xZ.jreti (me := xm73) hP_73 rfl rfl
        · skip
          refine xZ.adv (me := xm73) hP_73 2 (pc' := 24) (lv' := [(1, .int ((yw v1) + (1 : Int32))), (0, .ref v0)]) (st' := []) rfl ?_
          refine xZ.eqs (lv2 := [(1, .int (yw (v1 + 1))), (0, .ref v0)]) (st2 := []) (by simp only [yl_lit, yL_lit, yw_add, yw_sub, yw_mul, yw_neg, yl_add, yl_sub, yl_mul, cj_and, cj_or, cj_xor, cj_shl, cj_shr, cj_ushr, cj_div, cj_i2c, cj_i2b, cj_dc, ck_and, ck_or, ck_xor, ck_shl, ck_shr, ck_ushr, ck_i2l, ck_l2i, ck_cmp]) rfl ?_
          exact xZ.sub (xsc (.tail _ (.head _)) (xsc (.head _) xsn)) (show ([1, 0] : List Nat).Nodup from by decide) (ih v0 (v1 + 1) M4)
      · skip
        refine xZ.adv (me := xm73) hP_73 2 (pc' := 24) (lv' := [(1, .int ((yw v1) + (1 : Int32))), (0, .ref v0)]) (st' := []) rfl ?_
        refine xZ.eqs (lv2 := [(1, .int (yw (v1 + 1))), (0, .ref v0)]) (st2 := []) (by simp only [yl_lit, yL_lit, yw_add, yw_sub, yw_mul, yw_neg, yl_add, yl_sub, yl_mul, cj_and, cj_or, cj_xor, cj_shl, cj_shr, cj_ushr, cj_div, cj_i2c, cj_i2b, cj_dc, ck_and, ck_or, ck_xor, ck_shl, ck_shr, ck_ushr, ck_i2l, ck_l2i, ck_cmp]) rfl ?_
        exact xZ.sub (xsc (.tail _ (.head _)) (xsc (.head _) xsn)) (show ([1, 0] : List Nat).Nodup from by decide) (ih v0 (v1 + 1) M2)
def f_Reader_dayName (O : Nat → Option va_E) (f : Nat) (v0 : Nat) (M : xM) : Option (Int × xM) :=
  (gJ O M v0 8 5).bind fun x1 =>
  if yw x1 = yw 0 then (
    (gJ O M v0 8 4).bind fun x2 =>
    (gJ O M v0 8 3).bind fun x3 =>
    if yw (x2 - x3) = yw 2 then (
      f_Reader_dayName_24 O f f v0 0 M
    ) else
    some ((-1), M)
  ) else
  some ((-1), M)
set_option maxRecDepth 20000 in
theorem k_f_Reader_dayName (O : Nat → Option va_E) (f d : Nat) (v0 : Nat) (M : xM) : xZ oJ O (d + 4) 73 0 [(0, .ref v0)] [] M (f_Reader_dayName O f v0 M) := by
  unfold f_Reader_dayName
  refine xZ.adv (me := xm73) hP_73 1 (pc' := 1) (lv' := [(0, .ref v0)]) (st' := [.ref v0]) rfl ?_
  refine xZ.k_gJ (me := xm73) hP_73 rfl (fun x1 => ?_)
  refine xZ.jf_ne (me := xm73) hP_73 rfl (fun h1 => ?_) (fun h1 => ?_)
  · skip
    refine xZ.adv (me := xm73) hP_73 1 (pc' := 8) (lv' := [(0, .ref v0)]) (st' := [.ref v0]) rfl ?_
    refine xZ.k_gJ (me := xm73) hP_73 rfl (fun x2 => ?_)
    refine xZ.adv (me := xm73) hP_73 1 (pc' := 12) (lv' := [(0, .ref v0)]) (st' := [.ref v0, .int (yw x2)]) rfl ?_
    refine xZ.k_gJ (me := xm73) hP_73 rfl (fun x3 => ?_)
    refine xZ.adv (me := xm73) hP_73 2 (pc' := 17) (lv' := [(0, .ref v0)]) (st' := [.int (2 : Int32), .int ((yw x2) - (yw x3))]) rfl ?_
    refine xZ.eqs (lv2 := [(0, .ref v0)]) (st2 := [.int (yw 2), .int (yw (x2 - x3))]) rfl (by simp only [yl_lit, yL_lit, yw_add, yw_sub, yw_mul, yw_neg, yl_add, yl_sub, yl_mul, cj_and, cj_or, cj_xor, cj_shl, cj_shr, cj_ushr, cj_div, cj_i2c, cj_i2b, cj_dc, ck_and, ck_or, ck_xor, ck_shl, ck_shr, ck_ushr, ck_i2l, ck_l2i, ck_cmp]) ?_
    refine xZ.jc_eq (me := xm73) hP_73 rfl (fun h2 => ?_) (fun h2 => ?_)
    · skip
      refine xZ.adv (me := xm73) hP_73 2 (pc' := 24) (lv' := [(1, .int (0 : Int32)), (0, .ref v0)]) (st' := []) rfl ?_
      refine xZ.eqs (lv2 := [(1, .int (yw 0)), (0, .ref v0)]) (st2 := []) (by simp only [yl_lit, yL_lit, yw_add, yw_sub, yw_mul, yw_neg, yl_add, yl_sub, yl_mul, cj_and, cj_or, cj_xor, cj_shl, cj_shr, cj_ushr, cj_div, cj_i2c, cj_i2b, cj_dc, ck_and, ck_or, ck_xor, ck_shl, ck_shr, ck_ushr, ck_i2l, ck_l2i, ck_cmp]) rfl ?_
      exact xZ.sub (xsc (.tail _ (.head _)) (xsc (.head _) xsn)) (show ([1, 0] : List Nat).Nodup from by decide) (k_f_Reader_dayName_24 O f d f v0 0 M)
    · skip
      refine xZ.adv (me := xm73) hP_73 1 (pc' := 21) (lv' := [(0, .ref v0)]) (st' := [.int (-1 : Int32)]) rfl ?_
      refine xZ.eqs (lv2 := [(0, .ref v0)]) (st2 := [.int (yw (-1))]) rfl (by simp only [yl_lit, yL_lit, yw_add, yw_sub, yw_mul, yw_neg, yl_add, yl_sub, yl_mul, cj_and, cj_or, cj_xor, cj_shl, cj_shr, cj_ushr, cj_div, cj_i2c, cj_i2b, cj_dc, ck_and, ck_or, ck_xor, ck_shl, ck_shr, ck_ushr, ck_i2l, ck_l2i, ck_cmp]) ?_
      exact xZ.jreti (me := xm73) hP_73 rfl rfl
  · skip
    refine xZ.adv (me := xm73) hP_73 1 (pc' := 21) (lv' := [(0, .ref v0)]) (st' := [.int (-1 : Int32)]) rfl ?_
    refine xZ.eqs (lv2 := [(0, .ref v0)]) (st2 := [.int (yw (-1))]) rfl (by simp only [yl_lit, yL_lit, yw_add, yw_sub, yw_mul, yw_neg, yl_add, yl_sub, yl_mul, cj_and, cj_or, cj_xor, cj_shl, cj_shr, cj_ushr, cj_div, cj_i2c, cj_i2b, cj_dc, ck_and, ck_or, ck_xor, ck_shl, ck_shr, ck_ushr, ck_i2l, ck_l2i, ck_cmp]) ?_
    exact xZ.jreti (me := xm73) hP_73 rfl rfl
def f_Reader_parseDays_48 (O : Nat → Option va_E) (f : Nat) (v0 : Nat) (M : xM) : Option (Int × xM) :=
  (gR O M v0 8 1).bind fun x1 =>
  (gJ O M x1 9 3).bind fun x2 =>
  if yw x2 = yw 0 then (
    some (0, M)
  ) else
  some (1, M)
set_option maxRecDepth 20000 in
theorem k_f_Reader_parseDays_48 (O : Nat → Option va_E) (f d : Nat) (v0 : Nat) (M : xM) : xZ oJ O (d + 5) 72 48 [(0, .ref v0)] [] M (f_Reader_parseDays_48 O f v0 M) := by
  unfold f_Reader_parseDays_48
  refine xZ.adv (me := xm72) hP_72 1 (pc' := 49) (lv' := [(0, .ref v0)]) (st' := [.ref v0]) rfl ?_
  refine xZ.k_gR (me := xm72) hP_72 rfl (fun x1 => ?_)
  refine xZ.k_gJ (me := xm72) hP_72 rfl (fun x2 => ?_)
  refine xZ.jf_eq (me := xm72) hP_72 rfl (fun h1 => ?_) (fun h1 => ?_)
  · skip
    refine xZ.adv (me := xm72) hP_72 1 (pc' := 63) (lv' := [(0, .ref v0)]) (st' := [.int (0 : Int32)]) rfl ?_
    refine xZ.eqs (lv2 := [(0, .ref v0)]) (st2 := [.int (yw 0)]) rfl (by simp only [yl_lit, yL_lit, yw_add, yw_sub, yw_mul, yw_neg, yl_add, yl_sub, yl_mul, cj_and, cj_or, cj_xor, cj_shl, cj_shr, cj_ushr, cj_div, cj_i2c, cj_i2b, cj_dc, ck_and, ck_or, ck_xor, ck_shl, ck_shr, ck_ushr, ck_i2l, ck_l2i, ck_cmp]) ?_
    exact xZ.jrete (me := xm72) hP_72 rfl rfl rfl
  · skip
    refine xZ.adv (me := xm72) hP_72 2 (pc' := 63) (lv' := [(0, .ref v0)]) (st' := [.int (1 : Int32)]) rfl ?_
    refine xZ.eqs (lv2 := [(0, .ref v0)]) (st2 := [.int (yw 1)]) rfl (by simp only [yl_lit, yL_lit, yw_add, yw_sub, yw_mul, yw_neg, yl_add, yl_sub, yl_mul, cj_and, cj_or, cj_xor, cj_shl, cj_shr, cj_ushr, cj_div, cj_i2c, cj_i2b, cj_dc, ck_and, ck_or, ck_xor, ck_shl, ck_shr, ck_ushr, ck_i2l, ck_l2i, ck_cmp]) ?_
    exact xZ.jrete (me := xm72) hP_72 rfl rfl rfl
def f_Reader_parseDays_7 (O : Nat → Option va_E) (f : Nat) : Nat → Nat → Int → Int → xM → Option (Int × xM)
  | 0, _, _, _, _ => none
  | n + 1, v0, v1, v2, M =>
    if yw 120 ≤ yw v2 then (
      f_Reader_parseDays_48 O f v0 M
    ) else
    if yw v1 = yw (-1) then (
      f_Reader_parseDays_48 O f v0 M
    ) else
    (gR O M v0 8 1).bind fun x1 =>
    (gJ O M x1 9 3).bind fun x2 =>
    (pJ M x1 9 3 (jor x2 (jshl 1 (jand v1 31)))).bind fun M1 =>
    (isO O M1 v0 8).bind fun _ =>
    xcl (f_Reader_goOn O f v0 M1) fun _ M2 =>
    (isO O M2 v0 8).bind fun _ =>
    xcl (f_Reader_dayName O f v0 M2) fun x4 M3 =>
    f_Reader_parseDays_7 O f n v0 x4 (v2 + 1) M3
set_option maxRecDepth 20000 in
theorem k_f_Reader_parseDays_7 (O : Nat → Option va_E) (f d : Nat) : ∀ (n : Nat) (v0 : Nat) (v1 : Int) (v2 : Int) (M : xM), xZ oJ O (d + 5) 72 7 [(0, .ref v0), (1, .int (yw v1)), (2, .int (yw v2))] [] M (f_Reader_parseDays_7 O f n v0 v1 v2 M) := by
  intro n
  induction n with
  | zero =>
    intro v0 v1 v2 M
    exact xZ.no
  | succ n ih =>
    intro v0 v1 v2 M
    unfold f_Reader_parseDays_7
    refine xZ.adv (me := xm72) hP_72 2 (pc' := 10) (lv' := [(0, .ref v0), (1, .int (yw v1)), (2, .int (yw v2))]) (st' := [.int (120 : Int32), .int (yw v2)]) rfl ?_
    refine xZ.eqs (lv2 := [(0, .ref v0), (1, .int (yw v1)), (2, .int (yw v2))]) (st2 := [.int (yw 120), .int (yw v2)]) rfl (by simp only [yl_lit, yL_lit, yw_add, yw_sub, yw_mul, yw_neg, yl_add, yl_sub, yl_mul, cj_and, cj_or, cj_xor, cj_shl, cj_shr, cj_ushr, cj_div, cj_i2c, cj_i2b, cj_dc, ck_and, ck_or, ck_xor, ck_shl, ck_shr, ck_ushr, ck_i2l, ck_l2i, ck_cmp]) ?_
    refine xZ.jc_ge (me := xm72) hP_72 rfl (fun h1 => ?_) (fun h1 => ?_)
    · skip
      exact xZ.sub (xsc (.head _) xsn) (show ([0, 1, 2] : List Nat).Nodup from by decide) (k_f_Reader_parseDays_48 O f d v0 M)
    · skip
      refine xZ.adv (me := xm72) hP_72 2 (pc' := 15) (lv' := [(0, .ref v0), (1, .int (yw v1)), (2, .int (yw v2))]) (st' := [.int (-1 : Int32), .int (yw v1)]) rfl ?_
      refine xZ.eqs (lv2 := [(0, .ref v0), (1, .int (yw v1)), (2, .int (yw v2))]) (st2 := [.int (yw (-1)), .int (yw v1)]) rfl (by simp only [yl_lit, yL_lit, yw_add, yw_sub, yw_mul, yw_neg, yl_add, yl_sub, yl_mul, cj_and, cj_or, cj_xor, cj_shl, cj_shr, cj_ushr, cj_div, cj_i2c, cj_i2b, cj_dc, ck_and, ck_or, ck_xor, ck_shl, ck_shr, ck_ushr, ck_i2l, ck_l2i, ck_cmp]) ?_
      refine xZ.jc_eq (me := xm72) hP_72 rfl (fun h2 => ?_) (fun h2 => ?_)
      · skip
        exact xZ.sub (xsc (.head _) xsn) (show ([0, 1, 2] : List Nat).Nodup from by decide) (k_f_Reader_parseDays_48 O f d v0 M)
      · skip
        refine xZ.adv (me := xm72) hP_72 1 (pc' := 19) (lv' := [(0, .ref v0), (1, .int (yw v1)), (2, .int (yw v2))]) (st' := [.ref v0]) rfl ?_
        refine xZ.k_gR (me := xm72) hP_72 rfl (fun x1 => ?_)
        refine xZ.adv (me := xm72) hP_72 1 (pc' := 23) (lv' := [(0, .ref v0), (1, .int (yw v1)), (2, .int (yw v2))]) (st' := [.ref x1, .ref x1]) rfl ?_
        refine xZ.k_gJ (me := xm72) hP_72 rfl (fun x2 => ?_)
        refine xZ.adv (me := xm72) hP_72 4 (pc' := 30) (lv' := [(0, .ref v0), (1, .int (yw v1)), (2, .int (yw v2))]) (st' := [.int ((yw x2) ||| ((1 : Int32) <<< ((yw v1) &&& 31))), .ref x1]) rfl ?_
        refine xZ.eqs (lv2 := [(0, .ref v0), (1, .int (yw v1)), (2, .int (yw v2))]) (st2 := [.int (yw (jor x2 (jshl 1 (jand v1 31)))), .ref x1]) rfl (by simp only [yl_lit, yL_lit, yw_add, yw_sub, yw_mul, yw_neg, yl_add, yl_sub, yl_mul, cj_and, cj_or, cj_xor, cj_shl, cj_shr, cj_ushr, cj_div, cj_i2c, cj_i2b, cj_dc, ck_and, ck_or, ck_xor, ck_shl, ck_shr, ck_ushr, ck_i2l, ck_l2i, ck_cmp]) ?_
        refine xZ.k_pJ (me := xm72) hP_72 rfl (fun M1 => ?_)
        refine xZ.adv (me := xm72) hP_72 1 (pc' := 34) (lv' := [(0, .ref v0), (1, .int (yw v1)), (2, .int (yw v2))]) (st' := [.ref v0]) rfl ?_
        refine xZ.callv (κ := oU) (av := []) (rest := []) (st' := fun _ => []) (k0 := v0) (me := xm72) hP_72 rfl (Or.inl rfl) ⟨rfl, by decide⟩ rfl rfl (Nat.le_of_ble_eq_true rfl) (by decide) hP_65 (Nat.le_of_ble_eq_true rfl) (fun _ => rfl) (k_f_Reader_goOn O f (d + 3) v0 M1) (fun _ M2 => ?_)
        refine xZ.adv (me := xm72) hP_72 1 (pc' := 38) (lv' := [(0, .ref v0), (1, .int (yw v1)), (2, .int (yw v2))]) (st' := [.ref v0]) rfl ?_
        refine xZ.callv (κ := oJ) (av := []) (rest := []) (st' := fun x4 => [.int (yw x4)]) (k0 := v0) (me := xm72) hP_72 rfl (Or.inl rfl) ⟨rfl, by decide⟩ rfl rfl (Nat.le_of_ble_eq_true rfl) (by decide) hP_73 (Nat.le_of_ble_eq_true rfl) (fun _ => rfl) (k_f_Reader_dayName O f (d + 0) v0 M2) (fun x4 M3 => ?_)
        refine xZ.adv (me := xm72) hP_72 3 (pc' := 7) (lv' := [(2, .int ((yw v2) + (1 : Int32))), (1, .int (yw x4)), (0, .ref v0)]) (st' := []) rfl ?_
        refine xZ.eqs (lv2 := [(2, .int (yw (v2 + 1))), (1, .int (yw x4)), (0, .ref v0)]) (st2 := []) (by simp only [yl_lit, yL_lit, yw_add, yw_sub, yw_mul, yw_neg, yl_add, yl_sub, yl_mul, cj_and, cj_or, cj_xor, cj_shl, cj_shr, cj_ushr, cj_div, cj_i2c, cj_i2b, cj_dc, ck_and, ck_or, ck_xor, ck_shl, ck_shr, ck_ushr, ck_i2l, ck_l2i, ck_cmp]) rfl ?_
        exact xZ.sub (xsc (.tail _ (.tail _ (.head _))) (xsc (.tail _ (.head _)) (xsc (.head _) xsn))) (show ([2, 1, 0] : List Nat).Nodup from by decide) (ih v0 x4 (v2 + 1) M3)
def f_Reader_parseDays (O : Nat → Option va_E) (f : Nat) (v0 : Nat) (M : xM) : Option (Int × xM) :=
  (isO O M v0 8).bind fun _ =>
  xcl (f_Reader_dayName O f v0 M) fun x1 M1 =>
  f_Reader_parseDays_7 O f f v0 x1 0 M1
set_option maxRecDepth 20000 in
theorem k_f_Reader_parseDays (O : Nat → Option va_E) (f d : Nat) (v0 : Nat) (M : xM) : xZ oJ O (d + 5) 72 0 [(0, .ref v0)] [] M (f_Reader_parseDays O f v0 M) := by
  unfold f_Reader_parseDays
  refine xZ.adv (me := xm72) hP_72 1 (pc' := 1) (lv' := [(0, .ref v0)]) (st' := [.ref v0]) rfl ?_
  refine xZ.callv (κ := oJ) (av := []) (rest := []) (st' := fun x1 => [.int (yw x1)]) (k0 := v0) (me := xm72) hP_72 rfl (Or.inl rfl) ⟨rfl, by decide⟩ rfl rfl (Nat.le_of_ble_eq_true rfl) (by decide) hP_73 (Nat.le_of_ble_eq_true rfl) (fun _ => rfl) (k_f_Reader_dayName O f (d + 0) v0 M) (fun x1 M1 => ?_)
  refine xZ.adv (me := xm72) hP_72 3 (pc' := 7) (lv' := [(2, .int (0 : Int32)), (1, .int (yw x1)), (0, .ref v0)]) (st' := []) rfl ?_
  refine xZ.eqs (lv2 := [(2, .int (yw 0)), (1, .int (yw x1)), (0, .ref v0)]) (st2 := []) (by simp only [yl_lit, yL_lit, yw_add, yw_sub, yw_mul, yw_neg, yl_add, yl_sub, yl_mul, cj_and, cj_or, cj_xor, cj_shl, cj_shr, cj_ushr, cj_div, cj_i2c, cj_i2b, cj_dc, ck_and, ck_or, ck_xor, ck_shl, ck_shr, ck_ushr, ck_i2l, ck_l2i, ck_cmp]) rfl ?_
  exact xZ.sub (xsc (.tail _ (.tail _ (.head _))) (xsc (.tail _ (.head _)) (xsc (.head _) xsn))) (show ([2, 1, 0] : List Nat).Nodup from by decide) (k_f_Reader_parseDays_7 O f d f v0 x1 0 M1)
def f_Reader_ordinal (O : Nat → Option va_E) (f : Nat) (v0 : Int) (M : xM) : Option (Nat × xM) :=
  if yw v0 = yw 1 then (
    some (1000000024, M)
  ) else
  if yw v0 = yw 2 then (
    some (1000000026, M)
  ) else
  if yw v0 = yw 3 then (
    some (1000000028, M)
  ) else
  if yw v0 = yw 4 then (
    some (1000000030, M)
  ) else
  some (1000000032, M)
set_option maxRecDepth 20000 in
theorem k_f_Reader_ordinal (O : Nat → Option va_E) (f d : Nat) (v0 : Int) (M : xM) : xZ oR O (d + 0) 75 0 [(0, .int (yw v0))] [] M (f_Reader_ordinal O f v0 M) := by
  unfold f_Reader_ordinal
  refine xZ.adv (me := xm75) hP_75 1 (pc' := 1) (lv' := [(0, .int (yw v0))]) (st' := [.int (yw v0)]) rfl ?_
  refine xZ.cs (fun h1 => ?_) (fun h1 => ?_)
  · refine xZ.one (pc' := 32) (lv' := [(0, .int (yw v0))]) (st' := []) (me := xm75) hP_75 rfl (by rw [h1]; rfl) ?_
    refine xZ.adv (me := xm75) hP_75 1 (pc' := 34) (lv' := [(0, .int (yw v0))]) (st' := [.ref 1000000024]) rfl ?_
    exact xZ.retr (me := xm75) hP_75 rfl rfl rfl
  refine xZ.cs (fun h2 => ?_) (fun h2 => ?_)
  · refine xZ.one (pc' := 35) (lv' := [(0, .int (yw v0))]) (st' := []) (me := xm75) hP_75 rfl (by rw [h2]; rfl) ?_
    refine xZ.adv (me := xm75) hP_75 1 (pc' := 37) (lv' := [(0, .int (yw v0))]) (st' := [.ref 1000000026]) rfl ?_
    exact xZ.retr (me := xm75) hP_75 rfl rfl rfl
  refine xZ.cs (fun h3 => ?_) (fun h3 => ?_)
  · refine xZ.one (pc' := 38) (lv' := [(0, .int (yw v0))]) (st' := []) (me := xm75) hP_75 rfl (by rw [h3]; rfl) ?_
    refine xZ.adv (me := xm75) hP_75 1 (pc' := 40) (lv' := [(0, .int (yw v0))]) (st' := [.ref 1000000028]) rfl ?_
    exact xZ.retr (me := xm75) hP_75 rfl rfl rfl
  refine xZ.cs (fun h4 => ?_) (fun h4 => ?_)
  · refine xZ.one (pc' := 41) (lv' := [(0, .int (yw v0))]) (st' := []) (me := xm75) hP_75 rfl (by rw [h4]; rfl) ?_
    refine xZ.adv (me := xm75) hP_75 1 (pc' := 43) (lv' := [(0, .int (yw v0))]) (st' := [.ref 1000000030]) rfl ?_
    exact xZ.retr (me := xm75) hP_75 rfl rfl rfl
  refine xZ.tsw (pc' := 44) (me := xm75) hP_75 rfl (xsw_out (yw v0) (by decide) [(1 : Int32), (2 : Int32), (3 : Int32), (4 : Int32)] (by decide) ⟨h1, h2, h3, h4, trivial⟩) rfl rfl ?_
  refine xZ.adv (me := xm75) hP_75 1 (pc' := 46) (lv' := [(0, .int (yw v0))]) (st' := [.ref 1000000032]) rfl ?_
  exact xZ.retr (me := xm75) hP_75 rfl rfl rfl
def f_Reader_parseWhich_104 (O : Nat → Option va_E) (f : Nat) (v0 : Nat) (M : xM) : Option (Int × xM) :=
  (gR O M v0 8 1).bind fun x1 =>
  (gJ O M x1 9 4).bind fun x2 =>
  if yw x2 = yw 0 then (
    some (0, M)
  ) else
  (gR O M v0 8 1).bind fun x3 =>
  (pJ M x3 9 1 4).bind fun M1 =>
  (isO O M1 v0 8).bind fun _ =>
  xcl (f_Reader_parseDays O f v0 M1) fun x4 M2 =>
  if xfit .boolean (.int (yw x4)) = true then some (x4, M2) else none
set_option maxRecDepth 20000 in
theorem k_f_Reader_parseWhich_104 (O : Nat → Option va_E) (f d : Nat) (v0 : Nat) (M : xM) : xZ oJ O (d + 6) 74 104 [(0, .ref v0)] [] M (f_Reader_parseWhich_104 O f v0 M) := by
  unfold f_Reader_parseWhich_104
  refine xZ.adv (me := xm74) hP_74 1 (pc' := 105) (lv' := [(0, .ref v0)]) (st' := [.ref v0]) rfl ?_
  refine xZ.k_gR (me := xm74) hP_74 rfl (fun x1 => ?_)
  refine xZ.k_gJ (me := xm74) hP_74 rfl (fun x2 => ?_)
  refine xZ.jf_ne (me := xm74) hP_74 rfl (fun h1 => ?_) (fun h1 => ?_)
  · skip
    refine xZ.adv (me := xm74) hP_74 1 (pc' := 115) (lv' := [(0, .ref v0)]) (st' := [.int (0 : Int32)]) rfl ?_
    refine xZ.eqs (lv2 := [(0, .ref v0)]) (st2 := [.int (yw 0)]) rfl (by simp only [yl_lit, yL_lit, yw_add, yw_sub, yw_mul, yw_neg, yl_add, yl_sub, yl_mul, cj_and, cj_or, cj_xor, cj_shl, cj_shr, cj_ushr, cj_div, cj_i2c, cj_i2b, cj_dc, ck_and, ck_or, ck_xor, ck_shl, ck_shr, ck_ushr, ck_i2l, ck_l2i, ck_cmp]) ?_
    exact xZ.jrete (me := xm74) hP_74 rfl rfl rfl
  · skip
    refine xZ.adv (me := xm74) hP_74 1 (pc' := 117) (lv' := [(0, .ref v0)]) (st' := [.ref v0]) rfl ?_
    refine xZ.k_gR (me := xm74) hP_74 rfl (fun x3 => ?_)
    refine xZ.adv (me := xm74) hP_74 1 (pc' := 121) (lv' := [(0, .ref v0)]) (st' := [.int (4 : Int32), .ref x3]) rfl ?_
    refine xZ.eqs (lv2 := [(0, .ref v0)]) (st2 := [.int (yw 4), .ref x3]) rfl (by simp only [yl_lit, yL_lit, yw_add, yw_sub, yw_mul, yw_neg, yl_add, yl_sub, yl_mul, cj_and, cj_or, cj_xor, cj_shl, cj_shr, cj_ushr, cj_div, cj_i2c, cj_i2b, cj_dc, ck_and, ck_or, ck_xor, ck_shl, ck_shr, ck_ushr, ck_i2l, ck_l2i, ck_cmp]) ?_
    refine xZ.k_pJ (me := xm74) hP_74 rfl (fun M1 => ?_)
    refine xZ.adv (me := xm74) hP_74 1 (pc' := 125) (lv' := [(0, .ref v0)]) (st' := [.ref v0]) rfl ?_
    refine xZ.callv (κ := oJ) (av := []) (rest := []) (st' := fun x4 => [.int (yw x4)]) (k0 := v0) (me := xm74) hP_74 rfl (Or.inl rfl) ⟨rfl, by decide⟩ rfl rfl (Nat.le_of_ble_eq_true rfl) (by decide) hP_72 (Nat.le_of_ble_eq_true rfl) (fun _ => rfl) (k_f_Reader_parseDays O f (d + 0) v0 M1) (fun x4 M2 => ?_)
    exact xZ.jretf (me := xm74) hP_74 rfl rfl
def f_Reader_parseWhich_64 (O : Nat → Option va_E) (f : Nat) : Nat → Nat → Int → xM → Option (Int × xM)
  | 0, _, _, _ => none
  | n + 1, v0, v1, M =>
    if yw 5 < yw v1 then (
      f_Reader_parseWhich_104 O f v0 M
    ) else
    (gR O M v0 8 1).bind fun x1 =>
    (gJ O M x1 9 4).bind fun x2 =>
    if yw x2 = yw 0 then (
      xcl (f_Reader_ordinal O f v1 M) fun x3 M1 =>
      (isO O M1 v0 8).bind fun _ =>
      xcl (f_Reader_takes O f v0 x3 M1) fun x4 M2 =>
      if yw x4 = yw 0 then (
        f_Reader_parseWhich_64 O f n v0 (v1 + 1) M2
      ) else
      (gR O M2 v0 8 1).bind fun x5 =>
      (pJ M2 x5 9 4 v1).bind fun M3 =>
      f_Reader_parseWhich_64 O f n v0 (v1 + 1) M3
    ) else
    f_Reader_parseWhich_104 O f v0 M
set_option maxRecDepth 20000 in
theorem k_f_Reader_parseWhich_64 (O : Nat → Option va_E) (f d : Nat) : ∀ (n : Nat) (v0 : Nat) (v1 : Int) (M : xM), xZ oJ O (d + 6) 74 64 [(0, .ref v0), (1, .int (yw v1))] [] M (f_Reader_parseWhich_64 O f n v0 v1 M) := by
  intro n
  induction n with
  | zero =>
    intro v0 v1 M
    exact xZ.no
  | succ n ih =>
    intro v0 v1 M
    unfold f_Reader_parseWhich_64
    refine xZ.adv (me := xm74) hP_74 2 (pc' := 66) (lv' := [(0, .ref v0), (1, .int (yw v1))]) (st' := [.int (5 : Int32), .int (yw v1)]) rfl ?_
    refine xZ.eqs (lv2 := [(0, .ref v0), (1, .int (yw v1))]) (st2 := [.int (yw 5), .int (yw v1)]) rfl (by simp only [yl_lit, yL_lit, yw_add, yw_sub, yw_mul, yw_neg, yl_add, yl_sub, yl_mul, cj_and, cj_or, cj_xor, cj_shl, cj_shr, cj_ushr, cj_div, cj_i2c, cj_i2b, cj_dc, ck_and, ck_or, ck_xor, ck_shl, ck_shr, ck_ushr, ck_i2l, ck_l2i, ck_cmp]) ?_
    refine xZ.jc_gt (me := xm74) hP_74 rfl (fun h1 => ?_) (fun h1 => ?_)
    · skip
      exact xZ.sub (xsc (.head _) xsn) (show ([0, 1] : List Nat).Nodup from by decide) (k_f_Reader_parseWhich_104 O f d v0 M)
    · skip
      refine xZ.adv (me := xm74) hP_74 1 (pc' := 70) (lv' := [(0, .ref v0), (1, .int (yw v1))]) (st' := [.ref v0]) rfl ?_
      refine xZ.k_gR (me := xm74) hP_74 rfl (fun x1 => ?_)
      refine xZ.k_gJ (me := xm74) hP_74 rfl (fun x2 => ?_)
      refine xZ.jf_ne (me := xm74) hP_74 rfl (fun h2 => ?_) (fun h2 => ?_)
      · skip
        refine xZ.adv (me := xm74) hP_74 2 (pc' := 81) (lv' := [(0, .ref v0), (1, .int (yw v1))]) (st' := [.int (yw v1), .ref v0]) rfl ?_
        refine xZ.calls (κ := oR) (av := [.int (yw v1)]) (rest := [.ref v0]) (st' := fun x3 => [.ref x3, .ref v0]) (me := xm74) hP_74 rfl rfl rfl (Nat.le_of_ble_eq_true rfl) (by decide) hP_75 (Nat.le_of_ble_eq_true rfl) (fun _ => rfl) (k_f_Reader_ordinal O f (d + 5) v1 M) (fun x3 M1 => ?_)
        refine xZ.callv (κ := oJ) (av := [.ref x3]) (rest := []) (st' := fun x4 => [.int (yw x4)]) (k0 := v0) (me := xm74) hP_74 rfl (Or.inl rfl) ⟨rfl, by decide⟩ rfl rfl (Nat.le_of_ble_eq_true rfl) (by decide) hP_68 (Nat.le_of_ble_eq_true rfl) (fun _ => rfl) (k_f_Reader_takes O f (d + 0) v0 x3 M1) (fun x4 M2 => ?_)
        refine xZ.jf_eq (me := xm74) hP_74 rfl (fun h3 => ?_) (fun h3 => ?_)
        · skip
          refine xZ.adv (me := xm74) hP_74 2 (pc' := 64) (lv' := [(1, .int ((yw v1) + (1 : Int32))), (0, .ref v0)]) (st' := []) rfl ?_
          refine xZ.eqs (lv2 := [(1, .int (yw (v1 + 1))), (0, .ref v0)]) (st2 := []) (by simp only [yl_lit, yL_lit, yw_add, yw_sub, yw_mul, yw_neg, yl_add, yl_sub, yl_mul, cj_and, cj_or, cj_xor, cj_shl, cj_shr, cj_ushr, cj_div, cj_i2c, cj_i2b, cj_dc, ck_and, ck_or, ck_xor, ck_shl, ck_shr, ck_ushr, ck_i2l, ck_l2i, ck_cmp]) rfl ?_
          exact xZ.sub (xsc (.tail _ (.head _)) (xsc (.head _) xsn)) (show ([1, 0] : List Nat).Nodup from by decide) (ih v0 (v1 + 1) M2)
        · skip
          refine xZ.adv (me := xm74) hP_74 1 (pc' := 91) (lv' := [(0, .ref v0), (1, .int (yw v1))]) (st' := [.ref v0]) rfl ?_
          refine xZ.k_gR (me := xm74) hP_74 rfl (fun x5 => ?_)
          refine xZ.adv (me := xm74) hP_74 1 (pc' := 95) (lv' := [(0, .ref v0), (1, .int (yw v1))]) (st' := [.int (yw v1), .ref x5]) rfl ?_
          refine xZ.k_pJ (me := xm74) hP_74 rfl (fun M3 => ?_)
          refine xZ.adv (me := xm74) hP_74 2 (pc' := 64) (lv' := [(1, .int ((yw v1) + (1 : Int32))), (0, .ref v0)]) (st' := []) rfl ?_
          refine xZ.eqs (lv2 := [(1, .int (yw (v1 + 1))), (0, .ref v0)]) (st2 := []) (by simp only [yl_lit, yL_lit, yw_add, yw_sub, yw_mul, yw_neg, yl_add, yl_sub, yl_mul, cj_and, cj_or, cj_xor, cj_shl, cj_shr, cj_ushr, cj_div, cj_i2c, cj_i2b, cj_dc, ck_and, ck_or, ck_xor, ck_shl, ck_shr, ck_ushr, ck_i2l, ck_l2i, ck_cmp]) rfl ?_
          exact xZ.sub (xsc (.tail _ (.head _)) (xsc (.head _) xsn)) (show ([1, 0] : List Nat).Nodup from by decide) (ih v0 (v1 + 1) M3)
      · skip
        exact xZ.sub (xsc (.head _) xsn) (show ([0, 1] : List Nat).Nodup from by decide) (k_f_Reader_parseWhich_104 O f d v0 M)
def f_Reader_parseWhich_62 (O : Nat → Option va_E) (f : Nat) (v0 : Nat) (M : xM) : Option (Int × xM) :=
  f_Reader_parseWhich_64 O f f v0 1 M
set_option maxRecDepth 20000 in
theorem k_f_Reader_parseWhich_62 (O : Nat → Option va_E) (f d : Nat) (v0 : Nat) (M : xM) : xZ oJ O (d + 6) 74 62 [(0, .ref v0)] [] M (f_Reader_parseWhich_62 O f v0 M) := by
  unfold f_Reader_parseWhich_62
  refine xZ.adv (me := xm74) hP_74 2 (pc' := 64) (lv' := [(1, .int (1 : Int32)), (0, .ref v0)]) (st' := []) rfl ?_
  refine xZ.eqs (lv2 := [(1, .int (yw 1)), (0, .ref v0)]) (st2 := []) (by simp only [yl_lit, yL_lit, yw_add, yw_sub, yw_mul, yw_neg, yl_add, yl_sub, yl_mul, cj_and, cj_or, cj_xor, cj_shl, cj_shr, cj_ushr, cj_div, cj_i2c, cj_i2b, cj_dc, ck_and, ck_or, ck_xor, ck_shl, ck_shr, ck_ushr, ck_i2l, ck_l2i, ck_cmp]) rfl ?_
  exact xZ.sub (xsc (.tail _ (.head _)) (xsc (.head _) xsn)) (show ([1, 0] : List Nat).Nodup from by decide) (k_f_Reader_parseWhich_64 O f d f v0 1 M)
def f_Reader_parseWhich (O : Nat → Option va_E) (f : Nat) (v0 : Nat) (M : xM) : Option (Int × xM) :=
  (gR O M v0 8 1).bind fun x1 =>
  (pJ M x1 9 1 3).bind fun M1 =>
  (isO O M1 v0 8).bind fun _ =>
  xcl (f_Reader_isNumber O f v0 1 31 M1) fun x2 M2 =>
  if yw x2 = yw 0 then (
    (isO O M2 v0 8).bind fun _ =>
    xcl (f_Reader_takes O f v0 1000000050 M2) fun x3 M3 =>
    if yw x3 = yw 0 then (
      f_Reader_parseWhich_62 O f v0 M3
    ) else
    (gR O M3 v0 8 1).bind fun x4 =>
    (pJ M3 x4 9 4 (-1)).bind fun M4 =>
    (isO O M4 v0 8).bind fun _ =>
    xcl (f_Reader_dayName O f v0 M4) fun x5 M5 =>
    if yw x5 = yw (-1) then (
      some (1, M5)
    ) else
    f_Reader_parseWhich_62 O f v0 M5
  ) else
  (gR O M2 v0 8 1).bind fun x6 =>
  (gJ O M2 v0 8 6).bind fun x7 =>
  (pJ M2 x6 9 4 x7).bind fun M6 =>
  (isO O M6 v0 8).bind fun _ =>
  xcl (f_Reader_goOn O f v0 M6) fun _ M7 =>
  some (1, M7)
set_option maxRecDepth 20000 in
theorem k_f_Reader_parseWhich (O : Nat → Option va_E) (f d : Nat) (v0 : Nat) (M : xM) : xZ oJ O (d + 6) 74 0 [(0, .ref v0)] [] M (f_Reader_parseWhich O f v0 M) := by
  unfold f_Reader_parseWhich
  refine xZ.adv (me := xm74) hP_74 1 (pc' := 1) (lv' := [(0, .ref v0)]) (st' := [.ref v0]) rfl ?_
  refine xZ.k_gR (me := xm74) hP_74 rfl (fun x1 => ?_)
  refine xZ.adv (me := xm74) hP_74 1 (pc' := 5) (lv' := [(0, .ref v0)]) (st' := [.int (3 : Int32), .ref x1]) rfl ?_
  refine xZ.eqs (lv2 := [(0, .ref v0)]) (st2 := [.int (yw 3), .ref x1]) rfl (by simp only [yl_lit, yL_lit, yw_add, yw_sub, yw_mul, yw_neg, yl_add, yl_sub, yl_mul, cj_and, cj_or, cj_xor, cj_shl, cj_shr, cj_ushr, cj_div, cj_i2c, cj_i2b, cj_dc, ck_and, ck_or, ck_xor, ck_shl, ck_shr, ck_ushr, ck_i2l, ck_l2i, ck_cmp]) ?_
  refine xZ.k_pJ (me := xm74) hP_74 rfl (fun M1 => ?_)
  refine xZ.adv (me := xm74) hP_74 3 (pc' := 12) (lv' := [(0, .ref v0)]) (st' := [.int (31 : Int32), .int (1 : Int32), .ref v0]) rfl ?_
  refine xZ.eqs (lv2 := [(0, .ref v0)]) (st2 := [.int (yw 31), .int (yw 1), .ref v0]) rfl (by simp only [yl_lit, yL_lit, yw_add, yw_sub, yw_mul, yw_neg, yl_add, yl_sub, yl_mul, cj_and, cj_or, cj_xor, cj_shl, cj_shr, cj_ushr, cj_div, cj_i2c, cj_i2b, cj_dc, ck_and, ck_or, ck_xor, ck_shl, ck_shr, ck_ushr, ck_i2l, ck_l2i, ck_cmp]) ?_
  refine xZ.callv (κ := oJ) (av := [.int (yw 1), .int (yw 31)]) (rest := []) (st' := fun x2 => [.int (yw x2)]) (k0 := v0) (me := xm74) hP_74 rfl (Or.inl rfl) ⟨rfl, by decide⟩ rfl rfl (Nat.le_of_ble_eq_true rfl) (by decide) hP_70 (Nat.le_of_ble_eq_true rfl) (fun _ => rfl) (k_f_Reader_isNumber O f (d + 5) v0 1 31 M1) (fun x2 M2 => ?_)
  refine xZ.jf_eq (me := xm74) hP_74 rfl (fun h1 => ?_) (fun h1 => ?_)
  · skip
    refine xZ.adv (me := xm74) hP_74 2 (pc' := 38) (lv' := [(0, .ref v0)]) (st' := [.ref 1000000050, .ref v0]) rfl ?_
    refine xZ.callv (κ := oJ) (av := [.ref 1000000050]) (rest := []) (st' := fun x3 => [.int (yw x3)]) (k0 := v0) (me := xm74) hP_74 rfl (Or.inl rfl) ⟨rfl, by decide⟩ rfl rfl (Nat.le_of_ble_eq_true rfl) (by decide) hP_68 (Nat.le_of_ble_eq_true rfl) (fun _ => rfl) (k_f_Reader_takes O f (d + 0) v0 1000000050 M2) (fun x3 M3 => ?_)
    refine xZ.jf_eq (me := xm74) hP_74 rfl (fun h2 => ?_) (fun h2 => ?_)
    · skip
      exact (k_f_Reader_parseWhich_62 O f d v0 M3)
    · skip
      refine xZ.adv (me := xm74) hP_74 1 (pc' := 45) (lv' := [(0, .ref v0)]) (st' := [.ref v0]) rfl ?_
      refine xZ.k_gR (me := xm74) hP_74 rfl (fun x4 => ?_)
      refine xZ.adv (me := xm74) hP_74 1 (pc' := 49) (lv' := [(0, .ref v0)]) (st' := [.int (-1 : Int32), .ref x4]) rfl ?_
      refine xZ.eqs (lv2 := [(0, .ref v0)]) (st2 := [.int (yw (-1)), .ref x4]) rfl (by simp only [yl_lit, yL_lit, yw_add, yw_sub, yw_mul, yw_neg, yl_add, yl_sub, yl_mul, cj_and, cj_or, cj_xor, cj_shl, cj_shr, cj_ushr, cj_div, cj_i2c, cj_i2b, cj_dc, ck_and, ck_or, ck_xor, ck_shl, ck_shr, ck_ushr, ck_i2l, ck_l2i, ck_cmp]) ?_
      refine xZ.k_pJ (me := xm74) hP_74 rfl (fun M4 => ?_)
      refine xZ.adv (me := xm74) hP_74 1 (pc' := 53) (lv' := [(0, .ref v0)]) (st' := [.ref v0]) rfl ?_
      refine xZ.callv (κ := oJ) (av := []) (rest := []) (st' := fun x5 => [.int (yw x5)]) (k0 := v0) (me := xm74) hP_74 rfl (Or.inl rfl) ⟨rfl, by decide⟩ rfl rfl (Nat.le_of_ble_eq_true rfl) (by decide) hP_73 (Nat.le_of_ble_eq_true rfl) (fun _ => rfl) (k_f_Reader_dayName O f (d + 1) v0 M4) (fun x5 M5 => ?_)
      refine xZ.adv (me := xm74) hP_74 1 (pc' := 57) (lv' := [(0, .ref v0)]) (st' := [.int (-1 : Int32), .int (yw x5)]) rfl ?_
      refine xZ.eqs (lv2 := [(0, .ref v0)]) (st2 := [.int (yw (-1)), .int (yw x5)]) rfl (by simp only [yl_lit, yL_lit, yw_add, yw_sub, yw_mul, yw_neg, yl_add, yl_sub, yl_mul, cj_and, cj_or, cj_xor, cj_shl, cj_shr, cj_ushr, cj_div, cj_i2c, cj_i2b, cj_dc, ck_and, ck_or, ck_xor, ck_shl, ck_shr, ck_ushr, ck_i2l, ck_l2i, ck_cmp]) ?_
      refine xZ.jc_ne (me := xm74) hP_74 rfl (fun h3 => ?_) (fun h3 => ?_)
      · skip
        refine xZ.adv (me := xm74) hP_74 1 (pc' := 61) (lv' := [(0, .ref v0)]) (st' := [.int (1 : Int32)]) rfl ?_
        refine xZ.eqs (lv2 := [(0, .ref v0)]) (st2 := [.int (yw 1)]) rfl (by simp only [yl_lit, yL_lit, yw_add, yw_sub, yw_mul, yw_neg, yl_add, yl_sub, yl_mul, cj_and, cj_or, cj_xor, cj_shl, cj_shr, cj_ushr, cj_div, cj_i2c, cj_i2b, cj_dc, ck_and, ck_or, ck_xor, ck_shl, ck_shr, ck_ushr, ck_i2l, ck_l2i, ck_cmp]) ?_
        exact xZ.jrete (me := xm74) hP_74 rfl rfl rfl
      · skip
        exact (k_f_Reader_parseWhich_62 O f d v0 M5)
  · skip
    refine xZ.adv (me := xm74) hP_74 1 (pc' := 19) (lv' := [(0, .ref v0)]) (st' := [.ref v0]) rfl ?_
    refine xZ.k_gR (me := xm74) hP_74 rfl (fun x6 => ?_)
    refine xZ.adv (me := xm74) hP_74 1 (pc' := 23) (lv' := [(0, .ref v0)]) (st' := [.ref v0, .ref x6]) rfl ?_
    refine xZ.k_gJ (me := xm74) hP_74 rfl (fun x7 => ?_)
    refine xZ.k_pJ (me := xm74) hP_74 rfl (fun M6 => ?_)
    refine xZ.adv (me := xm74) hP_74 1 (pc' := 30) (lv' := [(0, .ref v0)]) (st' := [.ref v0]) rfl ?_
    refine xZ.callv (κ := oU) (av := []) (rest := []) (st' := fun _ => []) (k0 := v0) (me := xm74) hP_74 rfl (Or.inl rfl) ⟨rfl, by decide⟩ rfl rfl (Nat.le_of_ble_eq_true rfl) (by decide) hP_65 (Nat.le_of_ble_eq_true rfl) (fun _ => rfl) (k_f_Reader_goOn O f (d + 4) v0 M6) (fun _ M7 => ?_)
    refine xZ.adv (me := xm74) hP_74 1 (pc' := 34) (lv' := [(0, .ref v0)]) (st' := [.int (1 : Int32)]) rfl ?_
    refine xZ.eqs (lv2 := [(0, .ref v0)]) (st2 := [.int (yw 1)]) rfl (by simp only [yl_lit, yL_lit, yw_add, yw_sub, yw_mul, yw_neg, yl_add, yl_sub, yl_mul, cj_and, cj_or, cj_xor, cj_shl, cj_shr, cj_ushr, cj_div, cj_i2c, cj_i2b, cj_dc, ck_and, ck_or, ck_xor, ck_shl, ck_shr, ck_ushr, ck_i2l, ck_l2i, ck_cmp]) ?_
    exact xZ.jrete (me := xm74) hP_74 rfl rfl rfl
