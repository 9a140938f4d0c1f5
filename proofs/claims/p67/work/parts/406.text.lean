/-! ===== texts ===== -/
def f_Rule_writeUnit_61 (O : Nat → Option va_E) (f : Nat) : Nat → Nat → Nat → Int → xM → Option (Unit × xM)
  | 0, _, _, _, _ => none
  | n + 1, v0, v1, v2, M =>
    if yw 7 ≤ yw v2 then (
      some ((), M)
    ) else
    (gJ O M v0 9 3).bind fun x1 =>
    if yw (jand (jshr x1 (jand v2 31)) 1) = yw 0 then (
      f_Rule_writeUnit_61 O f n v0 v1 (v2 + 1) M
    ) else
    (isO O M v1 1).bind fun _ =>
    xcl (f_StringBuilder_append_299 O f v1 32 M) fun x2 M1 =>
    (isO O M1 1000000064 0).bind fun _ =>
    xcl (f_String_charAt O f 1000000064 (2 * v2) M1) fun x3 M2 =>
    (isO O M2 v1 1).bind fun _ =>
    xcl (f_StringBuilder_append_299 O f v1 x3 M2) fun x4 M3 =>
    (isO O M3 1000000064 0).bind fun _ =>
    xcl (f_String_charAt O f 1000000064 ((2 * v2) + 1) M3) fun x5 M4 =>
    (isO O M4 v1 1).bind fun _ =>
    xcl (f_StringBuilder_append_299 O f v1 x5 M4) fun x6 M5 =>
    f_Rule_writeUnit_61 O f n v0 v1 (v2 + 1) M5
set_option maxRecDepth 20000 in
theorem k_f_Rule_writeUnit_61 (O : Nat → Option va_E) (f d : Nat) : ∀ (n : Nat) (v0 : Nat) (v1 : Nat) (v2 : Int) (M : xM), xZ oU O (d + 8) 85 61 [(0, .ref v0), (1, .ref v1), (2, .int (yw v2))] [] M (f_Rule_writeUnit_61 O f n v0 v1 v2 M) := by
  intro n
  induction n with
  | zero =>
    intro v0 v1 v2 M
    exact xZ.no
  | succ n ih =>
    intro v0 v1 v2 M
    unfold f_Rule_writeUnit_61
    refine xZ.adv (me := xm85) hP_85 2 (pc' := 64) (lv' := [(0, .ref v0), (1, .ref v1), (2, .int (yw v2))]) (st' := [.int (7 : Int32), .int (yw v2)]) rfl ?_
    refine xZ.eqs (lv2 := [(0, .ref v0), (1, .ref v1), (2, .int (yw v2))]) (st2 := [.int (yw 7), .int (yw v2)]) rfl (by simp only [yl_lit, yL_lit, yw_add, yw_sub, yw_mul, yw_neg, yl_add, yl_sub, yl_mul, cj_and, cj_or, cj_xor, cj_shl, cj_shr, cj_ushr, cj_div, cj_i2c, cj_i2b, cj_dc, ck_and, ck_or, ck_xor, ck_shl, ck_shr, ck_ushr, ck_i2l, ck_l2i, ck_cmp]) ?_
    refine xZ.jc_ge (me := xm85) hP_85 rfl (fun h1 => ?_) (fun h1 => ?_)
    · skip
      exact xZ.retu (me := xm85) hP_85 rfl rfl
    · skip
      refine xZ.adv (me := xm85) hP_85 1 (pc' := 68) (lv' := [(0, .ref v0), (1, .ref v1), (2, .int (yw v2))]) (st' := [.ref v0]) rfl ?_
      refine xZ.k_gJ (me := xm85) hP_85 rfl (fun x1 => ?_)
      refine xZ.adv (me := xm85) hP_85 4 (pc' := 75) (lv' := [(0, .ref v0), (1, .ref v1), (2, .int (yw v2))]) (st' := [.int (((yw x1) >>> ((yw v2) &&& 31)) &&& (1 : Int32))]) rfl ?_
      refine xZ.eqs (lv2 := [(0, .ref v0), (1, .ref v1), (2, .int (yw v2))]) (st2 := [.int (yw (jand (jshr x1 (jand v2 31)) 1))]) rfl (by simp only [yl_lit, yL_lit, yw_add, yw_sub, yw_mul, yw_neg, yl_add, yl_sub, yl_mul, cj_and, cj_or, cj_xor, cj_shl, cj_shr, cj_ushr, cj_div, cj_i2c, cj_i2b, cj_dc, ck_and, ck_or, ck_xor, ck_shl, ck_shr, ck_ushr, ck_i2l, ck_l2i, ck_cmp]) ?_
      refine xZ.jf_ne (me := xm85) hP_85 rfl (fun h2 => ?_) (fun h2 => ?_)
      · skip
        refine xZ.adv (me := xm85) hP_85 3 (pc' := 61) (lv' := [(2, .int ((yw v2) + (1 : Int32))), (0, .ref v0), (1, .ref v1)]) (st' := []) rfl ?_
        refine xZ.eqs (lv2 := [(2, .int (yw (v2 + 1))), (0, .ref v0), (1, .ref v1)]) (st2 := []) (by simp only [yl_lit, yL_lit, yw_add, yw_sub, yw_mul, yw_neg, yl_add, yl_sub, yl_mul, cj_and, cj_or, cj_xor, cj_shl, cj_shr, cj_ushr, cj_div, cj_i2c, cj_i2b, cj_dc, ck_and, ck_or, ck_xor, ck_shl, ck_shr, ck_ushr, ck_i2l, ck_l2i, ck_cmp]) rfl ?_
        exact xZ.sub (xsc (.tail _ (.head _)) (xsc (.tail _ (.tail _ (.head _))) (xsc (.head _) xsn))) (show ([2, 0, 1] : List Nat).Nodup from by decide) (ih v0 v1 (v2 + 1) M)
      · skip
        refine xZ.adv (me := xm85) hP_85 2 (pc' := 84) (lv' := [(0, .ref v0), (1, .ref v1), (2, .int (yw v2))]) (st' := [.int (32 : Int32), .ref v1]) rfl ?_
        refine xZ.eqs (lv2 := [(0, .ref v0), (1, .ref v1), (2, .int (yw v2))]) (st2 := [.int (yw 32), .ref v1]) rfl (by simp only [yl_lit, yL_lit, yw_add, yw_sub, yw_mul, yw_neg, yl_add, yl_sub, yl_mul, cj_and, cj_or, cj_xor, cj_shl, cj_shr, cj_ushr, cj_div, cj_i2c, cj_i2b, cj_dc, ck_and, ck_or, ck_xor, ck_shl, ck_shr, ck_ushr, ck_i2l, ck_l2i, ck_cmp]) ?_
        refine xZ.callv (κ := oR) (av := [.int (yw 32)]) (rest := []) (st' := fun x2 => [.ref x2]) (k0 := v1) (me := xm85) hP_85 rfl (Or.inl rfl) ⟨rfl, by decide⟩ rfl rfl (Nat.le_of_ble_eq_true rfl) (by decide) hP_299 (Nat.le_of_ble_eq_true rfl) (fun _ => rfl) (k_f_StringBuilder_append_299 O f (d + 2) v1 32 M) (fun x2 M1 => ?_)
        refine xZ.adv (me := xm85) hP_85 6 (pc' := 94) (lv' := [(0, .ref v0), (1, .ref v1), (2, .int (yw v2))]) (st' := [.int ((2 : Int32) * (yw v2)), .ref 1000000064, .ref v1]) rfl ?_
        refine xZ.eqs (lv2 := [(0, .ref v0), (1, .ref v1), (2, .int (yw v2))]) (st2 := [.int (yw (2 * v2)), .ref 1000000064, .ref v1]) rfl (by simp only [yl_lit, yL_lit, yw_add, yw_sub, yw_mul, yw_neg, yl_add, yl_sub, yl_mul, cj_and, cj_or, cj_xor, cj_shl, cj_shr, cj_ushr, cj_div, cj_i2c, cj_i2b, cj_dc, ck_and, ck_or, ck_xor, ck_shl, ck_shr, ck_ushr, ck_i2l, ck_l2i, ck_cmp]) ?_
        refine xZ.callv (κ := oJ) (av := [.int (yw (2 * v2))]) (rest := [.ref v1]) (st' := fun x3 => [.int (yw x3), .ref v1]) (k0 := 1000000064) (me := xm85) hP_85 rfl (Or.inl rfl) ⟨rfl, by decide⟩ rfl rfl (Nat.le_of_ble_eq_true rfl) (by decide) hP_289 (Nat.le_of_ble_eq_true rfl) (fun _ => rfl) (k_f_String_charAt O f (d + 4) 1000000064 (2 * v2) M1) (fun x3 M2 => ?_)
        refine xZ.callv (κ := oR) (av := [.int (yw x3)]) (rest := []) (st' := fun x4 => [.ref x4]) (k0 := v1) (me := xm85) hP_85 rfl (Or.inl rfl) ⟨rfl, by decide⟩ rfl rfl (Nat.le_of_ble_eq_true rfl) (by decide) hP_299 (Nat.le_of_ble_eq_true rfl) (fun _ => rfl) (k_f_StringBuilder_append_299 O f (d + 2) v1 x3 M2) (fun x4 M3 => ?_)
        refine xZ.adv (me := xm85) hP_85 8 (pc' := 109) (lv' := [(0, .ref v0), (1, .ref v1), (2, .int (yw v2))]) (st' := [.int (((2 : Int32) * (yw v2)) + (1 : Int32)), .ref 1000000064, .ref v1]) rfl ?_
        refine xZ.eqs (lv2 := [(0, .ref v0), (1, .ref v1), (2, .int (yw v2))]) (st2 := [.int (yw ((2 * v2) + 1)), .ref 1000000064, .ref v1]) rfl (by simp only [yl_lit, yL_lit, yw_add, yw_sub, yw_mul, yw_neg, yl_add, yl_sub, yl_mul, cj_and, cj_or, cj_xor, cj_shl, cj_shr, cj_ushr, cj_div, cj_i2c, cj_i2b, cj_dc, ck_and, ck_or, ck_xor, ck_shl, ck_shr, ck_ushr, ck_i2l, ck_l2i, ck_cmp]) ?_
        refine xZ.callv (κ := oJ) (av := [.int (yw ((2 * v2) + 1))]) (rest := [.ref v1]) (st' := fun x5 => [.int (yw x5), .ref v1]) (k0 := 1000000064) (me := xm85) hP_85 rfl (Or.inl rfl) ⟨rfl, by decide⟩ rfl rfl (Nat.le_of_ble_eq_true rfl) (by decide) hP_289 (Nat.le_of_ble_eq_true rfl) (fun _ => rfl) (k_f_String_charAt O f (d + 4) 1000000064 ((2 * v2) + 1) M3) (fun x5 M4 => ?_)
        refine xZ.callv (κ := oR) (av := [.int (yw x5)]) (rest := []) (st' := fun x6 => [.ref x6]) (k0 := v1) (me := xm85) hP_85 rfl (Or.inl rfl) ⟨rfl, by decide⟩ rfl rfl (Nat.le_of_ble_eq_true rfl) (by decide) hP_299 (Nat.le_of_ble_eq_true rfl) (fun _ => rfl) (k_f_StringBuilder_append_299 O f (d + 2) v1 x5 M4) (fun x6 M5 => ?_)
        refine xZ.adv (me := xm85) hP_85 3 (pc' := 61) (lv' := [(2, .int ((yw v2) + (1 : Int32))), (0, .ref v0), (1, .ref v1)]) (st' := []) rfl ?_
        refine xZ.eqs (lv2 := [(2, .int (yw (v2 + 1))), (0, .ref v0), (1, .ref v1)]) (st2 := []) (by simp only [yl_lit, yL_lit, yw_add, yw_sub, yw_mul, yw_neg, yl_add, yl_sub, yl_mul, cj_and, cj_or, cj_xor, cj_shl, cj_shr, cj_ushr, cj_div, cj_i2c, cj_i2b, cj_dc, ck_and, ck_or, ck_xor, ck_shl, ck_shr, ck_ushr, ck_i2l, ck_l2i, ck_cmp]) rfl ?_
        exact xZ.sub (xsc (.tail _ (.head _)) (xsc (.tail _ (.tail _ (.head _))) (xsc (.head _) xsn))) (show ([2, 0, 1] : List Nat).Nodup from by decide) (ih v0 v1 (v2 + 1) M5)
def f_Rule_writeUnit_59 (O : Nat → Option va_E) (f : Nat) (v0 : Nat) (v1 : Nat) (M : xM) : Option (Unit × xM) :=
  f_Rule_writeUnit_61 O f f v0 v1 0 M
set_option maxRecDepth 20000 in
theorem k_f_Rule_writeUnit_59 (O : Nat → Option va_E) (f d : Nat) (v0 : Nat) (v1 : Nat) (M : xM) : xZ oU O (d + 8) 85 59 [(0, .ref v0), (1, .ref v1)] [] M (f_Rule_writeUnit_59 O f v0 v1 M) := by
  unfold f_Rule_writeUnit_59
  refine xZ.adv (me := xm85) hP_85 2 (pc' := 61) (lv' := [(2, .int (0 : Int32)), (0, .ref v0), (1, .ref v1)]) (st' := []) rfl ?_
  refine xZ.eqs (lv2 := [(2, .int (yw 0)), (0, .ref v0), (1, .ref v1)]) (st2 := []) (by simp only [yl_lit, yL_lit, yw_add, yw_sub, yw_mul, yw_neg, yl_add, yl_sub, yl_mul, cj_and, cj_or, cj_xor, cj_shl, cj_shr, cj_ushr, cj_div, cj_i2c, cj_i2b, cj_dc, ck_and, ck_or, ck_xor, ck_shl, ck_shr, ck_ushr, ck_i2l, ck_l2i, ck_cmp]) rfl ?_
  exact xZ.sub (xsc (.tail _ (.head _)) (xsc (.tail _ (.tail _ (.head _))) (xsc (.head _) xsn))) (show ([2, 0, 1] : List Nat).Nodup from by decide) (k_f_Rule_writeUnit_61 O f d f v0 v1 0 M)
def f_Rule_writeUnit (O : Nat → Option va_E) (f : Nat) (v0 : Nat) (v1 : Nat) (M : xM) : Option (Unit × xM) :=
  (gJ O M v0 9 1).bind fun x1 =>
  if yw x1 = yw 1 then (
    (isO O M v1 1).bind fun _ =>
    xcl (f_StringBuilder_append_256 O f v1 1000000042 M) fun x2 M1 =>
    f_Rule_writeUnit_59 O f v0 v1 M1
  ) else
  (gJ O M v0 9 1).bind fun x3 =>
  if yw x3 = yw 2 then (
    (isO O M v1 1).bind fun _ =>
    xcl (f_StringBuilder_append_256 O f v1 1000000044 M) fun x4 M2 =>
    f_Rule_writeUnit_59 O f v0 v1 M2
  ) else
  (gJ O M v0 9 1).bind fun x5 =>
  if yw x5 = yw 5 then (
    (isO O M v1 1).bind fun _ =>
    xcl (f_StringBuilder_append_256 O f v1 1000000046 M) fun x6 M3 =>
    f_Rule_writeUnit_59 O f v0 v1 M3
  ) else
  (isO O M v0 9).bind fun _ =>
  xcl (f_Rule_writePlace O f v0 v1 M) fun _ M4 =>
  f_Rule_writeUnit_59 O f v0 v1 M4
set_option maxRecDepth 20000 in
theorem k_f_Rule_writeUnit (O : Nat → Option va_E) (f d : Nat) (v0 : Nat) (v1 : Nat) (M : xM) : xZ oU O (d + 8) 85 0 [(0, .ref v0), (1, .ref v1)] [] M (f_Rule_writeUnit O f v0 v1 M) := by
  unfold f_Rule_writeUnit
  refine xZ.adv (me := xm85) hP_85 1 (pc' := 1) (lv' := [(0, .ref v0), (1, .ref v1)]) (st' := [.ref v0]) rfl ?_
  refine xZ.k_gJ (me := xm85) hP_85 rfl (fun x1 => ?_)
  refine xZ.adv (me := xm85) hP_85 1 (pc' := 5) (lv' := [(0, .ref v0), (1, .ref v1)]) (st' := [.int (1 : Int32), .int (yw x1)]) rfl ?_
  refine xZ.eqs (lv2 := [(0, .ref v0), (1, .ref v1)]) (st2 := [.int (yw 1), .int (yw x1)]) rfl (by simp only [yl_lit, yL_lit, yw_add, yw_sub, yw_mul, yw_neg, yl_add, yl_sub, yl_mul, cj_and, cj_or, cj_xor, cj_shl, cj_shr, cj_ushr, cj_div, cj_i2c, cj_i2b, cj_dc, ck_and, ck_or, ck_xor, ck_shl, ck_shr, ck_ushr, ck_i2l, ck_l2i, ck_cmp]) ?_
  refine xZ.jc_ne (me := xm85) hP_85 rfl (fun h1 => ?_) (fun h1 => ?_)
  · skip
    refine xZ.adv (me := xm85) hP_85 2 (pc' := 11) (lv' := [(0, .ref v0), (1, .ref v1)]) (st' := [.ref 1000000042, .ref v1]) rfl ?_
    refine xZ.callv (κ := oR) (av := [.ref 1000000042]) (rest := []) (st' := fun x2 => [.ref x2]) (k0 := v1) (me := xm85) hP_85 rfl (Or.inl rfl) ⟨rfl, by decide⟩ rfl rfl (Nat.le_of_ble_eq_true rfl) (by decide) hP_256 (Nat.le_of_ble_eq_true rfl) (fun _ => rfl) (k_f_StringBuilder_append_256 O f (d + 1) v1 1000000042 M) (fun x2 M1 => ?_)
    refine xZ.adv (me := xm85) hP_85 2 (pc' := 59) (lv' := [(0, .ref v0), (1, .ref v1)]) (st' := []) rfl ?_
    exact (k_f_Rule_writeUnit_59 O f d v0 v1 M1)
  · skip
    refine xZ.adv (me := xm85) hP_85 1 (pc' := 19) (lv' := [(0, .ref v0), (1, .ref v1)]) (st' := [.ref v0]) rfl ?_
    refine xZ.k_gJ (me := xm85) hP_85 rfl (fun x3 => ?_)
    refine xZ.adv (me := xm85) hP_85 1 (pc' := 23) (lv' := [(0, .ref v0), (1, .ref v1)]) (st' := [.int (2 : Int32), .int (yw x3)]) rfl ?_
    refine xZ.eqs (lv2 := [(0, .ref v0), (1, .ref v1)]) (st2 := [.int (yw 2), .int (yw x3)]) rfl (by simp only [yl_lit, yL_lit, yw_add, yw_sub, yw_mul, yw_neg, yl_add, yl_sub, yl_mul, cj_and, cj_or, cj_xor, cj_shl, cj_shr, cj_ushr, cj_div, cj_i2c, cj_i2b, cj_dc, ck_and, ck_or, ck_xor, ck_shl, ck_shr, ck_ushr, ck_i2l, ck_l2i, ck_cmp]) ?_
    refine xZ.jc_ne (me := xm85) hP_85 rfl (fun h2 => ?_) (fun h2 => ?_)
    · skip
      refine xZ.adv (me := xm85) hP_85 2 (pc' := 29) (lv' := [(0, .ref v0), (1, .ref v1)]) (st' := [.ref 1000000044, .ref v1]) rfl ?_
      refine xZ.callv (κ := oR) (av := [.ref 1000000044]) (rest := []) (st' := fun x4 => [.ref x4]) (k0 := v1) (me := xm85) hP_85 rfl (Or.inl rfl) ⟨rfl, by decide⟩ rfl rfl (Nat.le_of_ble_eq_true rfl) (by decide) hP_256 (Nat.le_of_ble_eq_true rfl) (fun _ => rfl) (k_f_StringBuilder_append_256 O f (d + 1) v1 1000000044 M) (fun x4 M2 => ?_)
      refine xZ.adv (me := xm85) hP_85 2 (pc' := 59) (lv' := [(0, .ref v0), (1, .ref v1)]) (st' := []) rfl ?_
      exact (k_f_Rule_writeUnit_59 O f d v0 v1 M2)
    · skip
      refine xZ.adv (me := xm85) hP_85 1 (pc' := 37) (lv' := [(0, .ref v0), (1, .ref v1)]) (st' := [.ref v0]) rfl ?_
      refine xZ.k_gJ (me := xm85) hP_85 rfl (fun x5 => ?_)
      refine xZ.adv (me := xm85) hP_85 1 (pc' := 41) (lv' := [(0, .ref v0), (1, .ref v1)]) (st' := [.int (5 : Int32), .int (yw x5)]) rfl ?_
      refine xZ.eqs (lv2 := [(0, .ref v0), (1, .ref v1)]) (st2 := [.int (yw 5), .int (yw x5)]) rfl (by simp only [yl_lit, yL_lit, yw_add, yw_sub, yw_mul, yw_neg, yl_add, yl_sub, yl_mul, cj_and, cj_or, cj_xor, cj_shl, cj_shr, cj_ushr, cj_div, cj_i2c, cj_i2b, cj_dc, ck_and, ck_or, ck_xor, ck_shl, ck_shr, ck_ushr, ck_i2l, ck_l2i, ck_cmp]) ?_
      refine xZ.jc_ne (me := xm85) hP_85 rfl (fun h3 => ?_) (fun h3 => ?_)
      · skip
        refine xZ.adv (me := xm85) hP_85 2 (pc' := 47) (lv' := [(0, .ref v0), (1, .ref v1)]) (st' := [.ref 1000000046, .ref v1]) rfl ?_
        refine xZ.callv (κ := oR) (av := [.ref 1000000046]) (rest := []) (st' := fun x6 => [.ref x6]) (k0 := v1) (me := xm85) hP_85 rfl (Or.inl rfl) ⟨rfl, by decide⟩ rfl rfl (Nat.le_of_ble_eq_true rfl) (by decide) hP_256 (Nat.le_of_ble_eq_true rfl) (fun _ => rfl) (k_f_StringBuilder_append_256 O f (d + 1) v1 1000000046 M) (fun x6 M3 => ?_)
        refine xZ.adv (me := xm85) hP_85 2 (pc' := 59) (lv' := [(0, .ref v0), (1, .ref v1)]) (st' := []) rfl ?_
        exact (k_f_Rule_writeUnit_59 O f d v0 v1 M3)
      · skip
        refine xZ.adv (me := xm85) hP_85 2 (pc' := 56) (lv' := [(0, .ref v0), (1, .ref v1)]) (st' := [.ref v1, .ref v0]) rfl ?_
        refine xZ.callv (κ := oU) (av := [.ref v1]) (rest := []) (st' := fun _ => []) (k0 := v0) (me := xm85) hP_85 rfl (Or.inl rfl) ⟨rfl, by decide⟩ rfl rfl (Nat.le_of_ble_eq_true rfl) (by decide) hP_86 (Nat.le_of_ble_eq_true rfl) (fun _ => rfl) (k_f_Rule_writePlace O f (d + 0) v0 v1 M) (fun _ M4 => ?_)
        exact (k_f_Rule_writeUnit_59 O f d v0 v1 M4)
def f_Rule_writeTo_77 (O : Nat → Option va_E) (f : Nat) (v0 : Nat) (v1 : Nat) (s0 : Nat) (s1 : Nat) (M : xM) : Option (Unit × xM) :=
  (isO O M s0 1).bind fun _ =>
  xcl (f_StringBuilder_append_256 O f s0 s1 M) fun x1 M1 =>
  (gJ O M1 v0 9 6).bind fun x2 =>
  (isO O M1 v1 1).bind fun _ =>
  xcl (f_StringBuilder_append_285 O f v1 x2 M1) fun x3 M2 =>
  some ((), M2)
set_option maxRecDepth 20000 in
theorem k_f_Rule_writeTo_77 (O : Nat → Option va_E) (f d : Nat) (v0 : Nat) (v1 : Nat) (s0 : Nat) (s1 : Nat) (M : xM) : xZ oU O (d + 9) 84 77 [(0, .ref v0), (1, .ref v1)] [.ref s1, .ref s0] M (f_Rule_writeTo_77 O f v0 v1 s0 s1 M) := by
  unfold f_Rule_writeTo_77
  refine xZ.callv (κ := oR) (av := [.ref s1]) (rest := []) (st' := fun x1 => [.ref x1]) (k0 := s0) (me := xm84) hP_84 rfl (Or.inl rfl) ⟨rfl, by decide⟩ rfl rfl (Nat.le_of_ble_eq_true rfl) (by decide) hP_256 (Nat.le_of_ble_eq_true rfl) (fun _ => rfl) (k_f_StringBuilder_append_256 O f (d + 2) s0 s1 M) (fun x1 M1 => ?_)
  refine xZ.adv (me := xm84) hP_84 3 (pc' := 83) (lv' := [(0, .ref v0), (1, .ref v1)]) (st' := [.ref v0, .ref v1]) rfl ?_
  refine xZ.k_gJ (me := xm84) hP_84 rfl (fun x2 => ?_)
  refine xZ.callv (κ := oR) (av := [.int (yw x2)]) (rest := []) (st' := fun x3 => [.ref x3]) (k0 := v1) (me := xm84) hP_84 rfl (Or.inl rfl) ⟨rfl, by decide⟩ rfl rfl (Nat.le_of_ble_eq_true rfl) (by decide) hP_285 (Nat.le_of_ble_eq_true rfl) (fun _ => rfl) (k_f_StringBuilder_append_285 O f (d + 3) v1 x2 M1) (fun x3 M2 => ?_)
  refine xZ.adv (me := xm84) hP_84 1 (pc' := 90) (lv' := [(0, .ref v0), (1, .ref v1)]) (st' := []) rfl ?_
  exact xZ.retu (me := xm84) hP_84 rfl rfl
def f_Rule_writeTo_53 (O : Nat → Option va_E) (f : Nat) (v0 : Nat) (v1 : Nat) (M : xM) : Option (Unit × xM) :=
  (gJ O M v0 9 5).bind fun x1 =>
  if yw x1 = yw 0 then (
    some ((), M)
  ) else
  (gJ O M v0 9 5).bind fun x2 =>
  if yw x2 = yw 1 then (
    f_Rule_writeTo_77 O f v0 v1 v1 1000000054 M
  ) else
  f_Rule_writeTo_77 O f v0 v1 v1 1000000056 M
set_option maxRecDepth 20000 in
theorem k_f_Rule_writeTo_53 (O : Nat → Option va_E) (f d : Nat) (v0 : Nat) (v1 : Nat) (M : xM) : xZ oU O (d + 9) 84 53 [(0, .ref v0), (1, .ref v1)] [] M (f_Rule_writeTo_53 O f v0 v1 M) := by
  unfold f_Rule_writeTo_53
  refine xZ.adv (me := xm84) hP_84 1 (pc' := 54) (lv' := [(0, .ref v0), (1, .ref v1)]) (st' := [.ref v0]) rfl ?_
  refine xZ.k_gJ (me := xm84) hP_84 rfl (fun x1 => ?_)
  refine xZ.jf_ne (me := xm84) hP_84 rfl (fun h1 => ?_) (fun h1 => ?_)
  · skip
    exact xZ.retu (me := xm84) hP_84 rfl rfl
  · skip
    refine xZ.adv (me := xm84) hP_84 2 (pc' := 63) (lv' := [(0, .ref v0), (1, .ref v1)]) (st' := [.ref v0, .ref v1]) rfl ?_
    refine xZ.k_gJ (me := xm84) hP_84 rfl (fun x2 => ?_)
    refine xZ.adv (me := xm84) hP_84 1 (pc' := 67) (lv' := [(0, .ref v0), (1, .ref v1)]) (st' := [.int (1 : Int32), .int (yw x2), .ref v1]) rfl ?_
    refine xZ.eqs (lv2 := [(0, .ref v0), (1, .ref v1)]) (st2 := [.int (yw 1), .int (yw x2), .ref v1]) rfl (by simp only [yl_lit, yL_lit, yw_add, yw_sub, yw_mul, yw_neg, yl_add, yl_sub, yl_mul, cj_and, cj_or, cj_xor, cj_shl, cj_shr, cj_ushr, cj_div, cj_i2c, cj_i2b, cj_dc, ck_and, ck_or, ck_xor, ck_shl, ck_shr, ck_ushr, ck_i2l, ck_l2i, ck_cmp]) ?_
    refine xZ.jc_ne (me := xm84) hP_84 rfl (fun h2 => ?_) (fun h2 => ?_)
    · skip
      refine xZ.adv (me := xm84) hP_84 2 (pc' := 77) (lv' := [(0, .ref v0), (1, .ref v1)]) (st' := [.ref 1000000054, .ref v1]) rfl ?_
      exact (k_f_Rule_writeTo_77 O f d v0 v1 v1 1000000054 M)
    · skip
      refine xZ.adv (me := xm84) hP_84 1 (pc' := 77) (lv' := [(0, .ref v0), (1, .ref v1)]) (st' := [.ref 1000000056, .ref v1]) rfl ?_
      exact (k_f_Rule_writeTo_77 O f d v0 v1 v1 1000000056 M)
def f_Rule_writeTo_48 (O : Nat → Option va_E) (f : Nat) (v0 : Nat) (v1 : Nat) (M : xM) : Option (Unit × xM) :=
  (isO O M v0 9).bind fun _ =>
  xcl (f_Rule_writeUnit O f v0 v1 M) fun _ M1 =>
  f_Rule_writeTo_53 O f v0 v1 M1
set_option maxRecDepth 20000 in
theorem k_f_Rule_writeTo_48 (O : Nat → Option va_E) (f d : Nat) (v0 : Nat) (v1 : Nat) (M : xM) : xZ oU O (d + 9) 84 48 [(0, .ref v0), (1, .ref v1)] [] M (f_Rule_writeTo_48 O f v0 v1 M) := by
  unfold f_Rule_writeTo_48
  refine xZ.adv (me := xm84) hP_84 2 (pc' := 50) (lv' := [(0, .ref v0), (1, .ref v1)]) (st' := [.ref v1, .ref v0]) rfl ?_
  refine xZ.callv (κ := oU) (av := [.ref v1]) (rest := []) (st' := fun _ => []) (k0 := v0) (me := xm84) hP_84 rfl (Or.inl rfl) ⟨rfl, by decide⟩ rfl rfl (Nat.le_of_ble_eq_true rfl) (by decide) hP_85 (Nat.le_of_ble_eq_true rfl) (fun _ => rfl) (k_f_Rule_writeUnit O f (d + 0) v0 v1 M) (fun _ M1 => ?_)
  exact (k_f_Rule_writeTo_53 O f d v0 v1 M1)
def f_Rule_writeTo (O : Nat → Option va_E) (f : Nat) (v0 : Nat) (v1 : Nat) (M : xM) : Option (Unit × xM) :=
  (gJ O M v0 9 1).bind fun x1 =>
  if yw x1 = yw 0 then (
    (isO O M v1 1).bind fun _ =>
    xcl (f_StringBuilder_append_256 O f v1 1000000040 M) fun x2 M1 =>
    f_Rule_writeTo_53 O f v0 v1 M1
  ) else
  (isO O M v1 1).bind fun _ =>
  xcl (f_StringBuilder_append_256 O f v1 1000000038 M) fun x3 M2 =>
  (gJ O M2 v0 9 2).bind fun x4 =>
  if yw x4 = yw 1 then (
    f_Rule_writeTo_48 O f v0 v1 M2
  ) else
  (gJ O M2 v0 9 2).bind fun x5 =>
  (isO O M2 v1 1).bind fun _ =>
  xcl (f_StringBuilder_append_285 O f v1 x5 M2) fun x6 M3 =>
  (isO O M3 v1 1).bind fun _ =>
  xcl (f_StringBuilder_append_299 O f v1 32 M3) fun x7 M4 =>
  f_Rule_writeTo_48 O f v0 v1 M4
set_option maxRecDepth 20000 in
theorem k_f_Rule_writeTo (O : Nat → Option va_E) (f d : Nat) (v0 : Nat) (v1 : Nat) (M : xM) : xZ oU O (d + 9) 84 0 [(0, .ref v0), (1, .ref v1)] [] M (f_Rule_writeTo O f v0 v1 M) := by
  unfold f_Rule_writeTo
  refine xZ.adv (me := xm84) hP_84 1 (pc' := 1) (lv' := [(0, .ref v0), (1, .ref v1)]) (st' := [.ref v0]) rfl ?_
  refine xZ.k_gJ (me := xm84) hP_84 rfl (fun x1 => ?_)
  refine xZ.jf_ne (me := xm84) hP_84 rfl (fun h1 => ?_) (fun h1 => ?_)
  · skip
    refine xZ.adv (me := xm84) hP_84 2 (pc' := 10) (lv' := [(0, .ref v0), (1, .ref v1)]) (st' := [.ref 1000000040, .ref v1]) rfl ?_
    refine xZ.callv (κ := oR) (av := [.ref 1000000040]) (rest := []) (st' := fun x2 => [.ref x2]) (k0 := v1) (me := xm84) hP_84 rfl (Or.inl rfl) ⟨rfl, by decide⟩ rfl rfl (Nat.le_of_ble_eq_true rfl) (by decide) hP_256 (Nat.le_of_ble_eq_true rfl) (fun _ => rfl) (k_f_StringBuilder_append_256 O f (d + 2) v1 1000000040 M) (fun x2 M1 => ?_)
    refine xZ.adv (me := xm84) hP_84 2 (pc' := 53) (lv' := [(0, .ref v0), (1, .ref v1)]) (st' := []) rfl ?_
    exact (k_f_Rule_writeTo_53 O f d v0 v1 M1)
  · skip
    refine xZ.adv (me := xm84) hP_84 2 (pc' := 20) (lv' := [(0, .ref v0), (1, .ref v1)]) (st' := [.ref 1000000038, .ref v1]) rfl ?_
    refine xZ.callv (κ := oR) (av := [.ref 1000000038]) (rest := []) (st' := fun x3 => [.ref x3]) (k0 := v1) (me := xm84) hP_84 rfl (Or.inl rfl) ⟨rfl, by decide⟩ rfl rfl (Nat.le_of_ble_eq_true rfl) (by decide) hP_256 (Nat.le_of_ble_eq_true rfl) (fun _ => rfl) (k_f_StringBuilder_append_256 O f (d + 2) v1 1000000038 M) (fun x3 M2 => ?_)
    refine xZ.adv (me := xm84) hP_84 2 (pc' := 25) (lv' := [(0, .ref v0), (1, .ref v1)]) (st' := [.ref v0]) rfl ?_
    refine xZ.k_gJ (me := xm84) hP_84 rfl (fun x4 => ?_)
    refine xZ.adv (me := xm84) hP_84 1 (pc' := 29) (lv' := [(0, .ref v0), (1, .ref v1)]) (st' := [.int (1 : Int32), .int (yw x4)]) rfl ?_
    refine xZ.eqs (lv2 := [(0, .ref v0), (1, .ref v1)]) (st2 := [.int (yw 1), .int (yw x4)]) rfl (by simp only [yl_lit, yL_lit, yw_add, yw_sub, yw_mul, yw_neg, yl_add, yl_sub, yl_mul, cj_and, cj_or, cj_xor, cj_shl, cj_shr, cj_ushr, cj_div, cj_i2c, cj_i2b, cj_dc, ck_and, ck_or, ck_xor, ck_shl, ck_shr, ck_ushr, ck_i2l, ck_l2i, ck_cmp]) ?_
    refine xZ.jc_eq (me := xm84) hP_84 rfl (fun h2 => ?_) (fun h2 => ?_)
    · skip
      exact (k_f_Rule_writeTo_48 O f d v0 v1 M2)
    · skip
      refine xZ.adv (me := xm84) hP_84 2 (pc' := 34) (lv' := [(0, .ref v0), (1, .ref v1)]) (st' := [.ref v0, .ref v1]) rfl ?_
      refine xZ.k_gJ (me := xm84) hP_84 rfl (fun x5 => ?_)
      refine xZ.callv (κ := oR) (av := [.int (yw x5)]) (rest := []) (st' := fun x6 => [.ref x6]) (k0 := v1) (me := xm84) hP_84 rfl (Or.inl rfl) ⟨rfl, by decide⟩ rfl rfl (Nat.le_of_ble_eq_true rfl) (by decide) hP_285 (Nat.le_of_ble_eq_true rfl) (fun _ => rfl) (k_f_StringBuilder_append_285 O f (d + 3) v1 x5 M2) (fun x6 M3 => ?_)
      refine xZ.adv (me := xm84) hP_84 3 (pc' := 44) (lv' := [(0, .ref v0), (1, .ref v1)]) (st' := [.int (32 : Int32), .ref v1]) rfl ?_
      refine xZ.eqs (lv2 := [(0, .ref v0), (1, .ref v1)]) (st2 := [.int (yw 32), .ref v1]) rfl (by simp only [yl_lit, yL_lit, yw_add, yw_sub, yw_mul, yw_neg, yl_add, yl_sub, yl_mul, cj_and, cj_or, cj_xor, cj_shl, cj_shr, cj_ushr, cj_div, cj_i2c, cj_i2b, cj_dc, ck_and, ck_or, ck_xor, ck_shl, ck_shr, ck_ushr, ck_i2l, ck_l2i, ck_cmp]) ?_
      refine xZ.callv (κ := oR) (av := [.int (yw 32)]) (rest := []) (st' := fun x7 => [.ref x7]) (k0 := v1) (me := xm84) hP_84 rfl (Or.inl rfl) ⟨rfl, by decide⟩ rfl rfl (Nat.le_of_ble_eq_true rfl) (by decide) hP_299 (Nat.le_of_ble_eq_true rfl) (fun _ => rfl) (k_f_StringBuilder_append_299 O f (d + 3) v1 32 M3) (fun x7 M4 => ?_)
      refine xZ.adv (me := xm84) hP_84 1 (pc' := 48) (lv' := [(0, .ref v0), (1, .ref v1)]) (st' := []) rfl ?_
      exact (k_f_Rule_writeTo_48 O f d v0 v1 M4)
def f_Arrays_rangeCheck (O : Nat → Option va_E) (f : Nat) (v0 : Int) (v1 : Int) (v2 : Int) (M : xM) : Option (Unit × xM) :=
  if yw v1 ≤ yw v2 then (
    if yw 0 ≤ yw v1 then (
      if yw v2 ≤ yw v0 then (
        some ((), M)
      ) else
      none
    ) else
    none
  ) else
  none
set_option maxRecDepth 20000 in
theorem k_f_Arrays_rangeCheck (O : Nat → Option va_E) (f d : Nat) (v0 : Int) (v1 : Int) (v2 : Int) (M : xM) : xZ oU O (d + 0) 298 0 [(0, .int (yw v0)), (1, .int (yw v1)), (2, .int (yw v2))] [] M (f_Arrays_rangeCheck O f v0 v1 v2 M) := by
  unfold f_Arrays_rangeCheck
  refine xZ.adv (me := xm298) hP_298 2 (pc' := 2) (lv' := [(0, .int (yw v0)), (1, .int (yw v1)), (2, .int (yw v2))]) (st' := [.int (yw v2), .int (yw v1)]) rfl ?_
  refine xZ.jc_le (me := xm298) hP_298 rfl (fun h1 => ?_) (fun h1 => ?_)
  · skip
    refine xZ.adv (me := xm298) hP_298 1 (pc' := 47) (lv' := [(0, .int (yw v0)), (1, .int (yw v1)), (2, .int (yw v2))]) (st' := [.int (yw v1)]) rfl ?_
    refine xZ.jf_ge (me := xm298) hP_298 rfl (fun h2 => ?_) (fun h2 => ?_)
    · skip
      refine xZ.adv (me := xm298) hP_298 2 (pc' := 61) (lv' := [(0, .int (yw v0)), (1, .int (yw v1)), (2, .int (yw v2))]) (st' := [.int (yw v0), .int (yw v2)]) rfl ?_
      refine xZ.jc_le (me := xm298) hP_298 rfl (fun h3 => ?_) (fun h3 => ?_)
      · skip
        exact xZ.retu (me := xm298) hP_298 rfl rfl
      · skip
        exact xZ.no
    · skip
      exact xZ.no
  · skip
    exact xZ.no
def f_Arrays_fill_10 (O : Nat → Option va_E) (f : Nat) : Nat → Nat → Int → Int → Int → xM → Option (Unit × xM)
  | 0, _, _, _, _, _ => none
  | n + 1, v0, v2, v3, v4, M =>
    if yw v2 ≤ yw v4 then (
      some ((), M)
    ) else
    (wJB M v0 v4 v3).bind fun M1 =>
    f_Arrays_fill_10 O f n v0 v2 v3 (v4 + 1) M1
set_option maxRecDepth 20000 in
theorem k_f_Arrays_fill_10 (O : Nat → Option va_E) (f d : Nat) : ∀ (n : Nat) (v0 : Nat) (v2 : Int) (v3 : Int) (v4 : Int) (M : xM), xZ oU O (d + 1) 297 10 [(0, .ref v0), (2, .int (yw v2)), (3, .int (yw v3)), (4, .int (yw v4))] [] M (f_Arrays_fill_10 O f n v0 v2 v3 v4 M) := by
  intro n
  induction n with
  | zero =>
    intro v0 v2 v3 v4 M
    exact xZ.no
  | succ n ih =>
    intro v0 v2 v3 v4 M
    unfold f_Arrays_fill_10
    refine xZ.adv (me := xm297) hP_297 2 (pc' := 13) (lv' := [(0, .ref v0), (2, .int (yw v2)), (3, .int (yw v3)), (4, .int (yw v4))]) (st' := [.int (yw v2), .int (yw v4)]) rfl ?_
    refine xZ.jc_ge (me := xm297) hP_297 rfl (fun h1 => ?_) (fun h1 => ?_)
    · skip
      exact xZ.retu (me := xm297) hP_297 rfl rfl
    · skip
      refine xZ.adv (me := xm297) hP_297 3 (pc' := 20) (lv' := [(0, .ref v0), (2, .int (yw v2)), (3, .int (yw v3)), (4, .int (yw v4))]) (st' := [.int (yw v3), .int (yw v4), .ref v0]) rfl ?_
      refine xZ.k_wJB (me := xm297) hP_297 rfl (fun M1 => ?_)
      refine xZ.adv (me := xm297) hP_297 2 (pc' := 10) (lv' := [(4, .int ((yw v4) + (1 : Int32))), (0, .ref v0), (2, .int (yw v2)), (3, .int (yw v3))]) (st' := []) rfl ?_
      refine xZ.eqs (lv2 := [(4, .int (yw (v4 + 1))), (0, .ref v0), (2, .int (yw v2)), (3, .int (yw v3))]) (st2 := []) (by simp only [yl_lit, yL_lit, yw_add, yw_sub, yw_mul, yw_neg, yl_add, yl_sub, yl_mul, cj_and, cj_or, cj_xor, cj_shl, cj_shr, cj_ushr, cj_div, cj_i2c, cj_i2b, cj_dc, ck_and, ck_or, ck_xor, ck_shl, ck_shr, ck_ushr, ck_i2l, ck_l2i, ck_cmp]) rfl ?_
      exact xZ.sub (xsc (.tail _ (.head _)) (xsc (.tail _ (.tail _ (.head _))) (xsc (.tail _ (.tail _ (.tail _ (.head _)))) (xsc (.head _) xsn)))) (show ([4, 0, 2, 3] : List Nat).Nodup from by decide) (ih v0 v2 v3 (v4 + 1) M1)
def f_Arrays_fill (O : Nat → Option va_E) (f : Nat) (v0 : Nat) (v1 : Int) (v2 : Int) (v3 : Int) (M : xM) : Option (Unit × xM) :=
  (aJN O M v0).bind fun x1 =>
  xcl (f_Arrays_rangeCheck O f x1 v1 v2 M) fun _ M1 =>
  f_Arrays_fill_10 O f f v0 v2 v3 v1 M1
set_option maxRecDepth 20000 in
theorem k_f_Arrays_fill (O : Nat → Option va_E) (f d : Nat) (v0 : Nat) (v1 : Int) (v2 : Int) (v3 : Int) (M : xM) : xZ oU O (d + 1) 297 0 [(0, .ref v0), (1, .int (yw v1)), (2, .int (yw v2)), (3, .int (yw v3))] [] M (f_Arrays_fill O f v0 v1 v2 v3 M) := by
  unfold f_Arrays_fill
  refine xZ.adv (me := xm297) hP_297 1 (pc' := 1) (lv' := [(0, .ref v0), (1, .int (yw v1)), (2, .int (yw v2)), (3, .int (yw v3))]) (st' := [.ref v0]) rfl ?_
  refine xZ.k_aJN (me := xm297) hP_297 rfl (fun x1 => ?_)
  refine xZ.adv (me := xm297) hP_297 2 (pc' := 4) (lv' := [(0, .ref v0), (1, .int (yw v1)), (2, .int (yw v2)), (3, .int (yw v3))]) (st' := [.int (yw v2), .int (yw v1), .int (yw x1)]) rfl ?_
  refine xZ.calls (κ := oU) (av := [.int (yw x1), .int (yw v1), .int (yw v2)]) (rest := []) (st' := fun _ => []) (me := xm297) hP_297 rfl rfl rfl (Nat.le_of_ble_eq_true rfl) (by decide) hP_298 (Nat.le_of_ble_eq_true rfl) (fun _ => rfl) (k_f_Arrays_rangeCheck O f (d + 0) x1 v1 v2 M) (fun _ M1 => ?_)
  refine xZ.adv (me := xm297) hP_297 2 (pc' := 10) (lv' := [(4, .int (yw v1)), (0, .ref v0), (1, .int (yw v1)), (2, .int (yw v2)), (3, .int (yw v3))]) (st' := []) rfl ?_
  exact xZ.sub (xsc (.tail _ (.head _)) (xsc (.tail _ (.tail _ (.tail _ (.head _)))) (xsc (.tail _ (.tail _ (.tail _ (.tail _ (.head _))))) (xsc (.head _) xsn)))) (show ([4, 0, 1, 2, 3] : List Nat).Nodup from by decide) (k_f_Arrays_fill_10 O f d f v0 v2 v3 v1 M1)
def f_StringLatin1_fillNull (O : Nat → Option va_E) (f : Nat) (v0 : Nat) (v1 : Int) (v2 : Int) (M : xM) : Option (Unit × xM) :=
  xcl (f_Arrays_fill O f v0 v1 v2 0 M) fun _ M1 =>
  some ((), M1)
set_option maxRecDepth 20000 in
theorem k_f_StringLatin1_fillNull (O : Nat → Option va_E) (f d : Nat) (v0 : Nat) (v1 : Int) (v2 : Int) (M : xM) : xZ oU O (d + 2) 296 0 [(0, .ref v0), (1, .int (yw v1)), (2, .int (yw v2))] [] M (f_StringLatin1_fillNull O f v0 v1 v2 M) := by
  unfold f_StringLatin1_fillNull
  refine xZ.adv (me := xm296) hP_296 4 (pc' := 4) (lv' := [(0, .ref v0), (1, .int (yw v1)), (2, .int (yw v2))]) (st' := [.int (0 : Int32), .int (yw v2), .int (yw v1), .ref v0]) rfl ?_
  refine xZ.eqs (lv2 := [(0, .ref v0), (1, .int (yw v1)), (2, .int (yw v2))]) (st2 := [.int (yw 0), .int (yw v2), .int (yw v1), .ref v0]) rfl (by simp only [yl_lit, yL_lit, yw_add, yw_sub, yw_mul, yw_neg, yl_add, yl_sub, yl_mul, cj_and, cj_or, cj_xor, cj_shl, cj_shr, cj_ushr, cj_div, cj_i2c, cj_i2b, cj_dc, ck_and, ck_or, ck_xor, ck_shl, ck_shr, ck_ushr, ck_i2l, ck_l2i, ck_cmp]) ?_
  refine xZ.calls (κ := oU) (av := [.ref v0, .int (yw v1), .int (yw v2), .int (yw 0)]) (rest := []) (st' := fun _ => []) (me := xm296) hP_296 rfl rfl rfl (Nat.le_of_ble_eq_true rfl) (by decide) hP_297 (Nat.le_of_ble_eq_true rfl) (fun _ => rfl) (k_f_Arrays_fill O f (d + 0) v0 v1 v2 0 M) (fun _ M1 => ?_)
  exact xZ.retu (me := xm296) hP_296 rfl rfl
def f_AbstractStringBuilder_setLength_76 (O : Nat → Option va_E) (f : Nat) (v0 : Nat) (v1 : Int) (M : xM) : Option (Unit × xM) :=
  (pJ M v0 1 3 v1).bind fun M1 =>
  some ((), M1)
set_option maxRecDepth 20000 in
theorem k_f_AbstractStringBuilder_setLength_76 (O : Nat → Option va_E) (f d : Nat) (v0 : Nat) (v1 : Int) (M : xM) : xZ oU O (d + 4) 295 76 [(0, .ref v0), (1, .int (yw v1))] [] M (f_AbstractStringBuilder_setLength_76 O f v0 v1 M) := by
  unfold f_AbstractStringBuilder_setLength_76
  refine xZ.adv (me := xm295) hP_295 2 (pc' := 78) (lv' := [(0, .ref v0), (1, .int (yw v1))]) (st' := [.int (yw v1), .ref v0]) rfl ?_
  refine xZ.k_pJ (me := xm295) hP_295 rfl (fun M1 => ?_)
  exact xZ.retu (me := xm295) hP_295 rfl rfl
def f_AbstractStringBuilder_setLength (O : Nat → Option va_E) (f : Nat) (v0 : Nat) (v1 : Int) (M : xM) : Option (Unit × xM) :=
  if yw 0 ≤ yw v1 then (
    (isO O M v0 1).bind fun _ =>
    xcl (f_AbstractStringBuilder_ensureCapacityInternal O f v0 v1 M) fun _ M1 =>
    (gJ O M1 v0 1 3).bind fun x2 =>
    if yw v1 ≤ yw x2 then (
      (gJ O M1 v0 1 3).bind fun x3 =>
      if yw x3 ≤ yw v1 then (
        f_AbstractStringBuilder_setLength_76 O f v0 v1 M1
      ) else
      (pJ M1 v0 1 2 1).bind fun M2 =>
      f_AbstractStringBuilder_setLength_76 O f v0 v1 M2
    ) else
    (isO O M1 v0 1).bind fun _ =>
    xcl (f_AbstractStringBuilder_isLatin1 O f v0 M1) fun x4 M3 =>
    if yw x4 = yw 0 then (
      (gR O M3 v0 1 0).bind fun x5 =>
      (gJ O M3 v0 1 3).bind fun x6 =>
      none
    ) else
    (gR O M3 v0 1 0).bind fun x7 =>
    (gJ O M3 v0 1 3).bind fun x8 =>
    xcl (f_StringLatin1_fillNull O f x7 x8 v1 M3) fun _ M4 =>
    f_AbstractStringBuilder_setLength_76 O f v0 v1 M4
  ) else
  none
set_option maxRecDepth 20000 in
theorem k_f_AbstractStringBuilder_setLength (O : Nat → Option va_E) (f d : Nat) (v0 : Nat) (v1 : Int) (M : xM) : xZ oU O (d + 4) 295 0 [(0, .ref v0), (1, .int (yw v1))] [] M (f_AbstractStringBuilder_setLength O f v0 v1 M) := by
  unfold f_AbstractStringBuilder_setLength
  refine xZ.adv (me := xm295) hP_295 1 (pc' := 1) (lv' := [(0, .ref v0), (1, .int (yw v1))]) (st' := [.int (yw v1)]) rfl ?_
  refine xZ.jf_ge (me := xm295) hP_295 rfl (fun h1 => ?_) (fun h1 => ?_)
  · skip
    refine xZ.adv (me := xm295) hP_295 2 (pc' := 15) (lv' := [(0, .ref v0), (1, .int (yw v1))]) (st' := [.int (yw v1), .ref v0]) rfl ?_
    refine xZ.callv (κ := oU) (av := [.int (yw v1)]) (rest := []) (st' := fun _ => []) (k0 := v0) (me := xm295) hP_295 rfl (Or.inr (Or.inl rfl)) ⟨rfl, by decide⟩ rfl rfl (Nat.le_of_ble_eq_true rfl) (by decide) hP_259 (Nat.le_of_ble_eq_true rfl) (fun _ => rfl) (k_f_AbstractStringBuilder_ensureCapacityInternal O f (d + 0) v0 v1 M) (fun _ M1 => ?_)
    refine xZ.adv (me := xm295) hP_295 1 (pc' := 19) (lv' := [(0, .ref v0), (1, .int (yw v1))]) (st' := [.ref v0]) rfl ?_
    refine xZ.k_gJ (me := xm295) hP_295 rfl (fun x2 => ?_)
    refine xZ.adv (me := xm295) hP_295 1 (pc' := 23) (lv' := [(0, .ref v0), (1, .int (yw v1))]) (st' := [.int (yw v1), .int (yw x2)]) rfl ?_
    refine xZ.jc_ge (me := xm295) hP_295 rfl (fun h2 => ?_) (fun h2 => ?_)
    · skip
      refine xZ.adv (me := xm295) hP_295 1 (pc' := 64) (lv' := [(0, .ref v0), (1, .int (yw v1))]) (st' := [.ref v0]) rfl ?_
      refine xZ.k_gJ (me := xm295) hP_295 rfl (fun x3 => ?_)
      refine xZ.adv (me := xm295) hP_295 1 (pc' := 68) (lv' := [(0, .ref v0), (1, .int (yw v1))]) (st' := [.int (yw v1), .int (yw x3)]) rfl ?_
      refine xZ.jc_le (me := xm295) hP_295 rfl (fun h3 => ?_) (fun h3 => ?_)
      · skip
        exact (k_f_AbstractStringBuilder_setLength_76 O f d v0 v1 M1)
      · skip
        refine xZ.adv (me := xm295) hP_295 2 (pc' := 73) (lv' := [(0, .ref v0), (1, .int (yw v1))]) (st' := [.int (1 : Int32), .ref v0]) rfl ?_
        refine xZ.eqs (lv2 := [(0, .ref v0), (1, .int (yw v1))]) (st2 := [.int (yw 1), .ref v0]) rfl (by simp only [yl_lit, yL_lit, yw_add, yw_sub, yw_mul, yw_neg, yl_add, yl_sub, yl_mul, cj_and, cj_or, cj_xor, cj_shl, cj_shr, cj_ushr, cj_div, cj_i2c, cj_i2b, cj_dc, ck_and, ck_or, ck_xor, ck_shl, ck_shr, ck_ushr, ck_i2l, ck_l2i, ck_cmp]) ?_
        refine xZ.k_pJ (me := xm295) hP_295 rfl (fun M2 => ?_)
        exact (k_f_AbstractStringBuilder_setLength_76 O f d v0 v1 M2)
    · skip
      refine xZ.adv (me := xm295) hP_295 1 (pc' := 27) (lv' := [(0, .ref v0), (1, .int (yw v1))]) (st' := [.ref v0]) rfl ?_
      refine xZ.callv (κ := oJ) (av := []) (rest := []) (st' := fun x4 => [.int (yw x4)]) (k0 := v0) (me := xm295) hP_295 rfl (Or.inr (Or.inl rfl)) ⟨rfl, by decide⟩ rfl rfl (Nat.le_of_ble_eq_true rfl) (by decide) hP_264 (Nat.le_of_ble_eq_true rfl) (fun _ => rfl) (k_f_AbstractStringBuilder_isLatin1 O f (d + 3) v0 M1) (fun x4 M3 => ?_)
      refine xZ.jf_eq (me := xm295) hP_295 rfl (fun h4 => ?_) (fun h4 => ?_)
      · skip
        refine xZ.adv (me := xm295) hP_295 1 (pc' := 49) (lv' := [(0, .ref v0), (1, .int (yw v1))]) (st' := [.ref v0]) rfl ?_
        refine xZ.k_gR (me := xm295) hP_295 rfl (fun x5 => ?_)
        refine xZ.adv (me := xm295) hP_295 1 (pc' := 53) (lv' := [(0, .ref v0), (1, .int (yw v1))]) (st' := [.ref v0, .ref x5]) rfl ?_
        refine xZ.k_gJ (me := xm295) hP_295 rfl (fun x6 => ?_)
        refine xZ.adv (me := xm295) hP_295 1 (pc' := 57) (lv' := [(0, .ref v0), (1, .int (yw v1))]) (st' := [.int (yw v1), .int (yw x6), .ref x5]) rfl ?_
        exact xZ.no
      · skip
        refine xZ.adv (me := xm295) hP_295 1 (pc' := 34) (lv' := [(0, .ref v0), (1, .int (yw v1))]) (st' := [.ref v0]) rfl ?_
        refine xZ.k_gR (me := xm295) hP_295 rfl (fun x7 => ?_)
        refine xZ.adv (me := xm295) hP_295 1 (pc' := 38) (lv' := [(0, .ref v0), (1, .int (yw v1))]) (st' := [.ref v0, .ref x7]) rfl ?_
        refine xZ.k_gJ (me := xm295) hP_295 rfl (fun x8 => ?_)
        refine xZ.adv (me := xm295) hP_295 1 (pc' := 42) (lv' := [(0, .ref v0), (1, .int (yw v1))]) (st' := [.int (yw v1), .int (yw x8), .ref x7]) rfl ?_
        refine xZ.calls (κ := oU) (av := [.ref x7, .int (yw x8), .int (yw v1)]) (rest := []) (st' := fun _ => []) (me := xm295) hP_295 rfl rfl rfl (Nat.le_of_ble_eq_true rfl) (by decide) hP_296 (Nat.le_of_ble_eq_true rfl) (fun _ => rfl) (k_f_StringLatin1_fillNull O f (d + 1) x7 x8 v1 M3) (fun _ M4 => ?_)
        refine xZ.adv (me := xm295) hP_295 1 (pc' := 76) (lv' := [(0, .ref v0), (1, .int (yw v1))]) (st' := []) rfl ?_
        exact (k_f_AbstractStringBuilder_setLength_76 O f d v0 v1 M4)
  · skip
    exact xZ.no
def f_StringBuilder_setLength (O : Nat → Option va_E) (f : Nat) (v0 : Nat) (v1 : Int) (M : xM) : Option (Unit × xM) :=
  (isO O M v0 1).bind fun _ =>
  xcl (f_AbstractStringBuilder_setLength O f v0 v1 M) fun _ M1 =>
  some ((), M1)
set_option maxRecDepth 20000 in
theorem k_f_StringBuilder_setLength (O : Nat → Option va_E) (f d : Nat) (v0 : Nat) (v1 : Int) (M : xM) : xZ oU O (d + 5) 294 0 [(0, .ref v0), (1, .int (yw v1))] [] M (f_StringBuilder_setLength O f v0 v1 M) := by
  unfold f_StringBuilder_setLength
  refine xZ.adv (me := xm294) hP_294 2 (pc' := 2) (lv' := [(0, .ref v0), (1, .int (yw v1))]) (st' := [.int (yw v1), .ref v0]) rfl ?_
  refine xZ.callu (κ := oU) (av := [.int (yw v1)]) (rest := []) (st' := fun _ => []) (k0 := v0) (me := xm294) hP_294 rfl ⟨rfl, by decide⟩ rfl rfl (Nat.le_of_ble_eq_true rfl) (by decide) hP_295 (Nat.le_of_ble_eq_true rfl) (fun _ => rfl) (k_f_AbstractStringBuilder_setLength O f (d + 0) v0 v1 M) (fun _ M1 => ?_)
  exact xZ.retu (me := xm294) hP_294 rfl rfl
def f_Calendarhall_write (O : Nat → Option va_E) (f : Nat) (v0 : Nat) (v1 : Int) (M : xM) : Option (Int × xM) :=
  (isO O M v0 12).bind fun _ =>
  xcl (f_Calendarhall_seriesNumbered O f v0 v1 M) fun x1 M1 =>
  (gR O M1 v0 12 8).bind fun x2 =>
  (isO O M1 x2 1).bind fun _ =>
  xcl (f_StringBuilder_setLength O f x2 0 M1) fun _ M2 =>
  (gR O M2 x1 10 6).bind fun x4 =>
  (gR O M2 v0 12 8).bind fun x5 =>
  (isO O M2 x4 9).bind fun _ =>
  xcl (f_Rule_writeTo O f x4 x5 M2) fun _ M3 =>
  (gR O M3 v0 12 8).bind fun x7 =>
  (isO O M3 x7 1).bind fun _ =>
  xcl (f_StringBuilder_length O f x7 M3) fun x8 M4 =>
  some (x8, M4)
set_option maxRecDepth 20000 in
theorem k_f_Calendarhall_write (O : Nat → Option va_E) (f d : Nat) (v0 : Nat) (v1 : Int) (M : xM) : xZ oJ O (d + 10) 83 0 [(0, .ref v0), (1, .int (yw v1))] [] M (f_Calendarhall_write O f v0 v1 M) := by
  unfold f_Calendarhall_write
  refine xZ.adv (me := xm83) hP_83 2 (pc' := 2) (lv' := [(0, .ref v0), (1, .int (yw v1))]) (st' := [.int (yw v1), .ref v0]) rfl ?_
  refine xZ.callv (κ := oR) (av := [.int (yw v1)]) (rest := []) (st' := fun x1 => [.ref x1]) (k0 := v0) (me := xm83) hP_83 rfl (Or.inl rfl) ⟨rfl, by decide⟩ rfl rfl (Nat.le_of_ble_eq_true rfl) (by decide) hP_79 (Nat.le_of_ble_eq_true rfl) (fun _ => rfl) (k_f_Calendarhall_seriesNumbered O f (d + 8) v0 v1 M) (fun x1 M1 => ?_)
  refine xZ.adv (me := xm83) hP_83 2 (pc' := 7) (lv' := [(2, .ref x1), (0, .ref v0), (1, .int (yw v1))]) (st' := [.ref v0]) rfl ?_
  refine xZ.k_gR (me := xm83) hP_83 rfl (fun x2 => ?_)
  refine xZ.adv (me := xm83) hP_83 1 (pc' := 11) (lv' := [(2, .ref x1), (0, .ref v0), (1, .int (yw v1))]) (st' := [.int (0 : Int32), .ref x2]) rfl ?_
  refine xZ.eqs (lv2 := [(2, .ref x1), (0, .ref v0), (1, .int (yw v1))]) (st2 := [.int (yw 0), .ref x2]) rfl (by simp only [yl_lit, yL_lit, yw_add, yw_sub, yw_mul, yw_neg, yl_add, yl_sub, yl_mul, cj_and, cj_or, cj_xor, cj_shl, cj_shr, cj_ushr, cj_div, cj_i2c, cj_i2b, cj_dc, ck_and, ck_or, ck_xor, ck_shl, ck_shr, ck_ushr, ck_i2l, ck_l2i, ck_cmp]) ?_
  refine xZ.callv (κ := oU) (av := [.int (yw 0)]) (rest := []) (st' := fun _ => []) (k0 := x2) (me := xm83) hP_83 rfl (Or.inl rfl) ⟨rfl, by decide⟩ rfl rfl (Nat.le_of_ble_eq_true rfl) (by decide) hP_294 (Nat.le_of_ble_eq_true rfl) (fun _ => rfl) (k_f_StringBuilder_setLength O f (d + 4) x2 0 M1) (fun _ M2 => ?_)
  refine xZ.adv (me := xm83) hP_83 1 (pc' := 15) (lv' := [(2, .ref x1), (0, .ref v0), (1, .int (yw v1))]) (st' := [.ref x1]) rfl ?_
  refine xZ.k_gR (me := xm83) hP_83 rfl (fun x4 => ?_)
  refine xZ.adv (me := xm83) hP_83 1 (pc' := 19) (lv' := [(2, .ref x1), (0, .ref v0), (1, .int (yw v1))]) (st' := [.ref v0, .ref x4]) rfl ?_
  refine xZ.k_gR (me := xm83) hP_83 rfl (fun x5 => ?_)
  refine xZ.callv (κ := oU) (av := [.ref x5]) (rest := []) (st' := fun _ => []) (k0 := x4) (me := xm83) hP_83 rfl (Or.inl rfl) ⟨rfl, by decide⟩ rfl rfl (Nat.le_of_ble_eq_true rfl) (by decide) hP_84 (Nat.le_of_ble_eq_true rfl) (fun _ => rfl) (k_f_Rule_writeTo O f (d + 0) x4 x5 M2) (fun _ M3 => ?_)
  refine xZ.adv (me := xm83) hP_83 1 (pc' := 26) (lv' := [(2, .ref x1), (0, .ref v0), (1, .int (yw v1))]) (st' := [.ref v0]) rfl ?_
  refine xZ.k_gR (me := xm83) hP_83 rfl (fun x7 => ?_)
  refine xZ.callv (κ := oJ) (av := []) (rest := []) (st' := fun x8 => [.int (yw x8)]) (k0 := x7) (me := xm83) hP_83 rfl (Or.inl rfl) ⟨rfl, by decide⟩ rfl rfl (Nat.le_of_ble_eq_true rfl) (by decide) hP_280 (Nat.le_of_ble_eq_true rfl) (fun _ => rfl) (k_f_StringBuilder_length O f (d + 8) x7 M3) (fun x8 M4 => ?_)
  exact xZ.jreti (me := xm83) hP_83 rfl rfl
def f_AbstractStringBuilder_charAt (O : Nat → Option va_E) (f : Nat) (v0 : Nat) (v1 : Int) (M : xM) : Option (Int × xM) :=
  (gJ O M v0 1 1).bind fun x1 =>
  (gR O M v0 1 0).bind fun x2 =>
  (gJ O M v0 1 3).bind fun x3 =>
  (aJN O M x2).bind fun x4 =>
  xcl (f_Math_min O f x3 (jshr x4 (jand x1 31)) M) fun x5 M1 =>
  xcl (f_String_checkIndex O f v1 x5 M1) fun _ M2 =>
  if yw x1 = yw 0 then (
    (aJB O M2 x2 v1).bind fun x7 =>
    if xfit .char (.int (yw (ji2c (jand x7 255)))) = true then some ((ji2c (jand x7 255)), M2) else none
  ) else
  none
set_option maxRecDepth 20000 in
theorem k_f_AbstractStringBuilder_charAt (O : Nat → Option va_E) (f d : Nat) (v0 : Nat) (v1 : Int) (M : xM) : xZ oJ O (d + 2) 303 0 [(0, .ref v0), (1, .int (yw v1))] [] M (f_AbstractStringBuilder_charAt O f v0 v1 M) := by
  unfold f_AbstractStringBuilder_charAt
  refine xZ.adv (me := xm303) hP_303 1 (pc' := 1) (lv' := [(0, .ref v0), (1, .int (yw v1))]) (st' := [.ref v0]) rfl ?_
  refine xZ.k_gJ (me := xm303) hP_303 rfl (fun x1 => ?_)
  refine xZ.adv (me := xm303) hP_303 2 (pc' := 6) (lv' := [(2, .int (yw x1)), (0, .ref v0), (1, .int (yw v1))]) (st' := [.ref v0]) rfl ?_
  refine xZ.k_gR (me := xm303) hP_303 rfl (fun x2 => ?_)
  refine xZ.adv (me := xm303) hP_303 2 (pc' := 11) (lv' := [(3, .ref x2), (2, .int (yw x1)), (0, .ref v0), (1, .int (yw v1))]) (st' := [.ref v0]) rfl ?_
  refine xZ.k_gJ (me := xm303) hP_303 rfl (fun x3 => ?_)
  refine xZ.adv (me := xm303) hP_303 1 (pc' := 15) (lv' := [(3, .ref x2), (2, .int (yw x1)), (0, .ref v0), (1, .int (yw v1))]) (st' := [.ref x2, .int (yw x3)]) rfl ?_
  refine xZ.k_aJN (me := xm303) hP_303 rfl (fun x4 => ?_)
  refine xZ.adv (me := xm303) hP_303 2 (pc' := 18) (lv' := [(3, .ref x2), (2, .int (yw x1)), (0, .ref v0), (1, .int (yw v1))]) (st' := [.int ((yw x4) >>> ((yw x1) &&& 31)), .int (yw x3)]) rfl ?_
  refine xZ.eqs (lv2 := [(3, .ref x2), (2, .int (yw x1)), (0, .ref v0), (1, .int (yw v1))]) (st2 := [.int (yw (jshr x4 (jand x1 31))), .int (yw x3)]) rfl (by simp only [yl_lit, yL_lit, yw_add, yw_sub, yw_mul, yw_neg, yl_add, yl_sub, yl_mul, cj_and, cj_or, cj_xor, cj_shl, cj_shr, cj_ushr, cj_div, cj_i2c, cj_i2b, cj_dc, ck_and, ck_or, ck_xor, ck_shl, ck_shr, ck_ushr, ck_i2l, ck_l2i, ck_cmp]) ?_
  refine xZ.calls (κ := oJ) (av := [.int (yw x3), .int (yw (jshr x4 (jand x1 31)))]) (rest := []) (st' := fun x5 => [.int (yw x5)]) (me := xm303) hP_303 rfl rfl rfl (Nat.le_of_ble_eq_true rfl) (by decide) hP_248 (Nat.le_of_ble_eq_true rfl) (fun _ => rfl) (k_f_Math_min O f (d + 1) x3 (jshr x4 (jand x1 31)) M) (fun x5 M1 => ?_)
  refine xZ.adv (me := xm303) hP_303 3 (pc' := 26) (lv' := [(4, .int (yw x5)), (3, .ref x2), (2, .int (yw x1)), (0, .ref v0), (1, .int (yw v1))]) (st' := [.int (yw x5), .int (yw v1)]) rfl ?_
  refine xZ.calls (κ := oU) (av := [.int (yw v1), .int (yw x5)]) (rest := []) (st' := fun _ => []) (me := xm303) hP_303 rfl rfl rfl (Nat.le_of_ble_eq_true rfl) (by decide) hP_292 (Nat.le_of_ble_eq_true rfl) (fun _ => rfl) (k_f_String_checkIndex O f (d + 0) v1 x5 M1) (fun _ M2 => ?_)
  refine xZ.adv (me := xm303) hP_303 1 (pc' := 30) (lv' := [(4, .int (yw x5)), (3, .ref x2), (2, .int (yw x1)), (0, .ref v0), (1, .int (yw v1))]) (st' := [.int (yw x1)]) rfl ?_
  refine xZ.jf_ne (me := xm303) hP_303 rfl (fun h1 => ?_) (fun h1 => ?_)
  · skip
    refine xZ.adv (me := xm303) hP_303 2 (pc' := 35) (lv' := [(4, .int (yw x5)), (3, .ref x2), (2, .int (yw x1)), (0, .ref v0), (1, .int (yw v1))]) (st' := [.int (yw v1), .ref x2]) rfl ?_
    refine xZ.k_aJB (me := xm303) hP_303 rfl (fun x7 => ?_)
    refine xZ.adv (me := xm303) hP_303 3 (pc' := 41) (lv' := [(4, .int (yw x5)), (3, .ref x2), (2, .int (yw x1)), (0, .ref v0), (1, .int (yw v1))]) (st' := [.int ((Int32.toUInt32 ((yw x7) &&& (255 : Int32)) % 65536).toInt32)]) rfl ?_
    refine xZ.eqs (lv2 := [(4, .int (yw x5)), (3, .ref x2), (2, .int (yw x1)), (0, .ref v0), (1, .int (yw v1))]) (st2 := [.int (yw (ji2c (jand x7 255)))]) rfl (by simp only [yl_lit, yL_lit, yw_add, yw_sub, yw_mul, yw_neg, yl_add, yl_sub, yl_mul, cj_and, cj_or, cj_xor, cj_shl, cj_shr, cj_ushr, cj_div, cj_i2c, cj_i2b, cj_dc, ck_and, ck_or, ck_xor, ck_shl, ck_shr, ck_ushr, ck_i2l, ck_l2i, ck_cmp]) ?_
    exact xZ.jretf (me := xm303) hP_303 rfl rfl
  · skip
    refine xZ.adv (me := xm303) hP_303 2 (pc' := 44) (lv' := [(4, .int (yw x5)), (3, .ref x2), (2, .int (yw x1)), (0, .ref v0), (1, .int (yw v1))]) (st' := [.int (yw v1), .ref x2]) rfl ?_
    exact xZ.no
def f_StringBuilder_charAt (O : Nat → Option va_E) (f : Nat) (v0 : Nat) (v1 : Int) (M : xM) : Option (Int × xM) :=
  (isO O M v0 1).bind fun _ =>
  xcl (f_AbstractStringBuilder_charAt O f v0 v1 M) fun x1 M1 =>
  if xfit .char (.int (yw x1)) = true then some (x1, M1) else none
set_option maxRecDepth 20000 in
theorem k_f_StringBuilder_charAt (O : Nat → Option va_E) (f d : Nat) (v0 : Nat) (v1 : Int) (M : xM) : xZ oJ O (d + 3) 302 0 [(0, .ref v0), (1, .int (yw v1))] [] M (f_StringBuilder_charAt O f v0 v1 M) := by
  unfold f_StringBuilder_charAt
  refine xZ.adv (me := xm302) hP_302 2 (pc' := 2) (lv' := [(0, .ref v0), (1, .int (yw v1))]) (st' := [.int (yw v1), .ref v0]) rfl ?_
  refine xZ.callu (κ := oJ) (av := [.int (yw v1)]) (rest := []) (st' := fun x1 => [.int (yw x1)]) (k0 := v0) (me := xm302) hP_302 rfl ⟨rfl, by decide⟩ rfl rfl (Nat.le_of_ble_eq_true rfl) (by decide) hP_303 (Nat.le_of_ble_eq_true rfl) (fun _ => rfl) (k_f_AbstractStringBuilder_charAt O f (d + 0) v0 v1 M) (fun x1 M1 => ?_)
  exact xZ.jretf (me := xm302) hP_302 rfl rfl
def f_Calendarhall_writtenAt (O : Nat → Option va_E) (f : Nat) (v0 : Nat) (v1 : Int) (M : xM) : Option (Int × xM) :=
  if yw v1 < yw 0 then (
    none
  ) else
  (gR O M v0 12 8).bind fun x1 =>
  (isO O M x1 1).bind fun _ =>
  xcl (f_StringBuilder_length O f x1 M) fun x2 M1 =>
  if yw v1 < yw x2 then (
    (gR O M1 v0 12 8).bind fun x3 =>
    (isO O M1 x3 1).bind fun _ =>
    xcl (f_StringBuilder_charAt O f x3 v1 M1) fun x4 M2 =>
    some (x4, M2)
  ) else
  none
set_option maxRecDepth 20000 in
theorem k_f_Calendarhall_writtenAt (O : Nat → Option va_E) (f d : Nat) (v0 : Nat) (v1 : Int) (M : xM) : xZ oJ O (d + 4) 87 0 [(0, .ref v0), (1, .int (yw v1))] [] M (f_Calendarhall_writtenAt O f v0 v1 M) := by
  unfold f_Calendarhall_writtenAt
  refine xZ.adv (me := xm87) hP_87 1 (pc' := 1) (lv' := [(0, .ref v0), (1, .int (yw v1))]) (st' := [.int (yw v1)]) rfl ?_
  refine xZ.jf_lt (me := xm87) hP_87 rfl (fun h1 => ?_) (fun h1 => ?_)
  · skip
    exact xZ.no
  · skip
    refine xZ.adv (me := xm87) hP_87 2 (pc' := 6) (lv' := [(0, .ref v0), (1, .int (yw v1))]) (st' := [.ref v0, .int (yw v1)]) rfl ?_
    refine xZ.k_gR (me := xm87) hP_87 rfl (fun x1 => ?_)
    refine xZ.callv (κ := oJ) (av := []) (rest := [.int (yw v1)]) (st' := fun x2 => [.int (yw x2), .int (yw v1)]) (k0 := x1) (me := xm87) hP_87 rfl (Or.inl rfl) ⟨rfl, by decide⟩ rfl rfl (Nat.le_of_ble_eq_true rfl) (by decide) hP_280 (Nat.le_of_ble_eq_true rfl) (fun _ => rfl) (k_f_StringBuilder_length O f (d + 2) x1 M) (fun x2 M1 => ?_)
    refine xZ.jc_lt (me := xm87) hP_87 rfl (fun h2 => ?_) (fun h2 => ?_)
    · skip
      refine xZ.adv (me := xm87) hP_87 1 (pc' := 24) (lv' := [(0, .ref v0), (1, .int (yw v1))]) (st' := [.ref v0]) rfl ?_
      refine xZ.k_gR (me := xm87) hP_87 rfl (fun x3 => ?_)
      refine xZ.adv (me := xm87) hP_87 1 (pc' := 28) (lv' := [(0, .ref v0), (1, .int (yw v1))]) (st' := [.int (yw v1), .ref x3]) rfl ?_
      refine xZ.callv (κ := oJ) (av := [.int (yw v1)]) (rest := []) (st' := fun x4 => [.int (yw x4)]) (k0 := x3) (me := xm87) hP_87 rfl (Or.inl rfl) ⟨rfl, by decide⟩ rfl rfl (Nat.le_of_ble_eq_true rfl) (by decide) hP_302 (Nat.le_of_ble_eq_true rfl) (fun _ => rfl) (k_f_StringBuilder_charAt O f (d + 0) x3 v1 M1) (fun x4 M2 => ?_)
      exact xZ.jreti (me := xm87) hP_87 rfl rfl
    · skip
      exact xZ.no
def f_LDays_first (O : Nat → Option va_E) (f : Nat) (v0 : Nat) (v1 : Int) (M : xM) : Option (Int × xM) :=
  (gR O M v0 14 2).bind fun x1 =>
  (aJ O M x1 v1).bind fun x2 =>
  some (((v1 - x2) + 1), M)
set_option maxRecDepth 20000 in
theorem k_f_LDays_first (O : Nat → Option va_E) (f d : Nat) (v0 : Nat) (v1 : Int) (M : xM) : xZ oJ O (d + 0) 90 0 [(0, .ref v0), (1, .int (yw v1))] [] M (f_LDays_first O f v0 v1 M) := by
  unfold f_LDays_first
  refine xZ.adv (me := xm90) hP_90 2 (pc' := 2) (lv' := [(0, .ref v0), (1, .int (yw v1))]) (st' := [.ref v0, .int (yw v1)]) rfl ?_
  refine xZ.k_gR (me := xm90) hP_90 rfl (fun x1 => ?_)
  refine xZ.adv (me := xm90) hP_90 1 (pc' := 6) (lv' := [(0, .ref v0), (1, .int (yw v1))]) (st' := [.int (yw v1), .ref x1, .int (yw v1)]) rfl ?_
  refine xZ.k_aJ (me := xm90) hP_90 rfl (fun x2 => ?_)
  refine xZ.adv (me := xm90) hP_90 3 (pc' := 10) (lv' := [(0, .ref v0), (1, .int (yw v1))]) (st' := [.int (((yw v1) - (yw x2)) + (1 : Int32))]) rfl ?_
  refine xZ.eqs (lv2 := [(0, .ref v0), (1, .int (yw v1))]) (st2 := [.int (yw ((v1 - x2) + 1))]) rfl (by simp only [yl_lit, yL_lit, yw_add, yw_sub, yw_mul, yw_neg, yl_add, yl_sub, yl_mul, cj_and, cj_or, cj_xor, cj_shl, cj_shr, cj_ushr, cj_div, cj_i2c, cj_i2b, cj_dc, ck_and, ck_or, ck_xor, ck_shl, ck_shr, ck_ushr, ck_i2l, ck_l2i, ck_cmp]) ?_
  exact xZ.jreti (me := xm90) hP_90 rfl rfl
def f_LDays_last (O : Nat → Option va_E) (f : Nat) (v0 : Nat) (v1 : Int) (M : xM) : Option (Int × xM) :=
  (isO O M v0 14).bind fun _ =>
  xcl (f_LDays_first O f v0 v1 M) fun x1 M1 =>
  (gR O M1 v0 14 0).bind fun x2 =>
  (aJ O M1 x2 v1).bind fun x3 =>
  (gR O M1 v0 14 1).bind fun x4 =>
  (aJ O M1 x4 v1).bind fun x5 =>
  (isO O M1 v0 14).bind fun _ =>
  xcl (f_LDays_length O f v0 x3 x5 M1) fun x6 M2 =>
  some (((x1 + x6) - 1), M2)
set_option maxRecDepth 20000 in
theorem k_f_LDays_last (O : Nat → Option va_E) (f d : Nat) (v0 : Nat) (v1 : Int) (M : xM) : xZ oJ O (d + 1) 89 0 [(0, .ref v0), (1, .int (yw v1))] [] M (f_LDays_last O f v0 v1 M) := by
  unfold f_LDays_last
  refine xZ.adv (me := xm89) hP_89 2 (pc' := 2) (lv' := [(0, .ref v0), (1, .int (yw v1))]) (st' := [.int (yw v1), .ref v0]) rfl ?_
  refine xZ.callv (κ := oJ) (av := [.int (yw v1)]) (rest := []) (st' := fun x1 => [.int (yw x1)]) (k0 := v0) (me := xm89) hP_89 rfl (Or.inl rfl) ⟨rfl, by decide⟩ rfl rfl (Nat.le_of_ble_eq_true rfl) (by decide) hP_90 (Nat.le_of_ble_eq_true rfl) (fun _ => rfl) (k_f_LDays_first O f (d + 0) v0 v1 M) (fun x1 M1 => ?_)
  refine xZ.adv (me := xm89) hP_89 2 (pc' := 7) (lv' := [(0, .ref v0), (1, .int (yw v1))]) (st' := [.ref v0, .ref v0, .int (yw x1)]) rfl ?_
  refine xZ.k_gR (me := xm89) hP_89 rfl (fun x2 => ?_)
  refine xZ.adv (me := xm89) hP_89 1 (pc' := 11) (lv' := [(0, .ref v0), (1, .int (yw v1))]) (st' := [.int (yw v1), .ref x2, .ref v0, .int (yw x1)]) rfl ?_
  refine xZ.k_aJ (me := xm89) hP_89 rfl (fun x3 => ?_)
  refine xZ.adv (me := xm89) hP_89 1 (pc' := 13) (lv' := [(0, .ref v0), (1, .int (yw v1))]) (st' := [.ref v0, .int (yw x3), .ref v0, .int (yw x1)]) rfl ?_
  refine xZ.k_gR (me := xm89) hP_89 rfl (fun x4 => ?_)
  refine xZ.adv (me := xm89) hP_89 1 (pc' := 17) (lv' := [(0, .ref v0), (1, .int (yw v1))]) (st' := [.int (yw v1), .ref x4, .int (yw x3), .ref v0, .int (yw x1)]) rfl ?_
  refine xZ.k_aJ (me := xm89) hP_89 rfl (fun x5 => ?_)
  refine xZ.callv (κ := oJ) (av := [.int (yw x3), .int (yw x5)]) (rest := [.int (yw x1)]) (st' := fun x6 => [.int (yw x6), .int (yw x1)]) (k0 := v0) (me := xm89) hP_89 rfl (Or.inl rfl) ⟨rfl, by decide⟩ rfl rfl (Nat.le_of_ble_eq_true rfl) (by decide) hP_15 (Nat.le_of_ble_eq_true rfl) (fun _ => rfl) (k_f_LDays_length O f (d + 0) v0 x3 x5 M1) (fun x6 M2 => ?_)
  refine xZ.adv (me := xm89) hP_89 3 (pc' := 24) (lv' := [(0, .ref v0), (1, .int (yw v1))]) (st' := [.int (((yw x1) + (yw x6)) - (1 : Int32))]) rfl ?_
  refine xZ.eqs (lv2 := [(0, .ref v0), (1, .int (yw v1))]) (st2 := [.int (yw ((x1 + x6) - 1))]) rfl (by simp only [yl_lit, yL_lit, yw_add, yw_sub, yw_mul, yw_neg, yl_add, yl_sub, yl_mul, cj_and, cj_or, cj_xor, cj_shl, cj_shr, cj_ushr, cj_div, cj_i2c, cj_i2b, cj_dc, ck_and, ck_or, ck_xor, ck_shl, ck_shr, ck_ushr, ck_i2l, ck_l2i, ck_cmp]) ?_
  exact xZ.jreti (me := xm89) hP_89 rfl rfl
def f_LRule_holds_372 (O : Nat → Option va_E) (f : Nat) (v0 : Nat) (v1 : Nat) (v2 : Int) (v5 : Int) (M : xM) : Option (Int × xM) :=
  (gJ O M v0 16 3).bind fun x1 =>
  (gR O M v1 14 3).bind fun x2 =>
  (aJ O M x2 v2).bind fun x3 =>
  if yw (jand (jshr x1 (jand x3 31)) 1) = yw 1 then (
    (gJ O M v0 16 4).bind fun x4 =>
    xcl (f_Math_abs O f x4 M) fun x5 M1 =>
    if yw v5 = yw x5 then (
      some (1, M1)
    ) else
    some (0, M1)
  ) else
  some (0, M)
set_option maxRecDepth 20000 in
theorem k_f_LRule_holds_372 (O : Nat → Option va_E) (f d : Nat) (v0 : Nat) (v1 : Nat) (v2 : Int) (v5 : Int) (M : xM) : xZ oJ O (d + 2) 88 372 [(0, .ref v0), (1, .ref v1), (2, .int (yw v2)), (5, .int (yw v5))] [] M (f_LRule_holds_372 O f v0 v1 v2 v5 M) := by
  unfold f_LRule_holds_372
  refine xZ.adv (me := xm88) hP_88 1 (pc' := 373) (lv' := [(0, .ref v0), (1, .ref v1), (2, .int (yw v2)), (5, .int (yw v5))]) (st' := [.ref v0]) rfl ?_
  refine xZ.k_gJ (me := xm88) hP_88 rfl (fun x1 => ?_)
  refine xZ.adv (me := xm88) hP_88 1 (pc' := 377) (lv' := [(0, .ref v0), (1, .ref v1), (2, .int (yw v2)), (5, .int (yw v5))]) (st' := [.ref v1, .int (yw x1)]) rfl ?_
  refine xZ.k_gR (me := xm88) hP_88 rfl (fun x2 => ?_)
  refine xZ.adv (me := xm88) hP_88 1 (pc' := 381) (lv' := [(0, .ref v0), (1, .ref v1), (2, .int (yw v2)), (5, .int (yw v5))]) (st' := [.int (yw v2), .ref x2, .int (yw x1)]) rfl ?_
  refine xZ.k_aJ (me := xm88) hP_88 rfl (fun x3 => ?_)
  refine xZ.adv (me := xm88) hP_88 4 (pc' := 386) (lv' := [(0, .ref v0), (1, .ref v1), (2, .int (yw v2)), (5, .int (yw v5))]) (st' := [.int (1 : Int32), .int (((yw x1) >>> ((yw x3) &&& 31)) &&& (1 : Int32))]) rfl ?_
  refine xZ.eqs (lv2 := [(0, .ref v0), (1, .ref v1), (2, .int (yw v2)), (5, .int (yw v5))]) (st2 := [.int (yw 1), .int (yw (jand (jshr x1 (jand x3 31)) 1))]) rfl (by simp only [yl_lit, yL_lit, yw_add, yw_sub, yw_mul, yw_neg, yl_add, yl_sub, yl_mul, cj_and, cj_or, cj_xor, cj_shl, cj_shr, cj_ushr, cj_div, cj_i2c, cj_i2b, cj_dc, ck_and, ck_or, ck_xor, ck_shl, ck_shr, ck_ushr, ck_i2l, ck_l2i, ck_cmp]) ?_
  refine xZ.jc_ne (me := xm88) hP_88 rfl (fun h1 => ?_) (fun h1 => ?_)
  · skip
    refine xZ.adv (me := xm88) hP_88 2 (pc' := 392) (lv' := [(0, .ref v0), (1, .ref v1), (2, .int (yw v2)), (5, .int (yw v5))]) (st' := [.ref v0, .int (yw v5)]) rfl ?_
    refine xZ.k_gJ (me := xm88) hP_88 rfl (fun x4 => ?_)
    refine xZ.calls (κ := oJ) (av := [.int (yw x4)]) (rest := [.int (yw v5)]) (st' := fun x5 => [.int (yw x5), .int (yw v5)]) (me := xm88) hP_88 rfl rfl rfl (Nat.le_of_ble_eq_true rfl) (by decide) hP_249 (Nat.le_of_ble_eq_true rfl) (fun _ => rfl) (k_f_Math_abs O f (d + 1) x4 M) (fun x5 M1 => ?_)
    refine xZ.jc_ne (me := xm88) hP_88 rfl (fun h2 => ?_) (fun h2 => ?_)
    · skip
      refine xZ.adv (me := xm88) hP_88 2 (pc' := 406) (lv' := [(0, .ref v0), (1, .ref v1), (2, .int (yw v2)), (5, .int (yw v5))]) (st' := [.int (1 : Int32)]) rfl ?_
      refine xZ.eqs (lv2 := [(0, .ref v0), (1, .ref v1), (2, .int (yw v2)), (5, .int (yw v5))]) (st2 := [.int (yw 1)]) rfl (by simp only [yl_lit, yL_lit, yw_add, yw_sub, yw_mul, yw_neg, yl_add, yl_sub, yl_mul, cj_and, cj_or, cj_xor, cj_shl, cj_shr, cj_ushr, cj_div, cj_i2c, cj_i2b, cj_dc, ck_and, ck_or, ck_xor, ck_shl, ck_shr, ck_ushr, ck_i2l, ck_l2i, ck_cmp]) ?_
      exact xZ.jrete (me := xm88) hP_88 rfl rfl rfl
    · skip
      refine xZ.adv (me := xm88) hP_88 1 (pc' := 406) (lv' := [(0, .ref v0), (1, .ref v1), (2, .int (yw v2)), (5, .int (yw v5))]) (st' := [.int (0 : Int32)]) rfl ?_
      refine xZ.eqs (lv2 := [(0, .ref v0), (1, .ref v1), (2, .int (yw v2)), (5, .int (yw v5))]) (st2 := [.int (yw 0)]) rfl (by simp only [yl_lit, yL_lit, yw_add, yw_sub, yw_mul, yw_neg, yl_add, yl_sub, yl_mul, cj_and, cj_or, cj_xor, cj_shl, cj_shr, cj_ushr, cj_div, cj_i2c, cj_i2b, cj_dc, ck_and, ck_or, ck_xor, ck_shl, ck_shr, ck_ushr, ck_i2l, ck_l2i, ck_cmp]) ?_
      exact xZ.jrete (me := xm88) hP_88 rfl rfl rfl
  · skip
    refine xZ.adv (me := xm88) hP_88 1 (pc' := 406) (lv' := [(0, .ref v0), (1, .ref v1), (2, .int (yw v2)), (5, .int (yw v5))]) (st' := [.int (0 : Int32)]) rfl ?_
    refine xZ.eqs (lv2 := [(0, .ref v0), (1, .ref v1), (2, .int (yw v2)), (5, .int (yw v5))]) (st2 := [.int (yw 0)]) rfl (by simp only [yl_lit, yL_lit, yw_add, yw_sub, yw_mul, yw_neg, yl_add, yl_sub, yl_mul, cj_and, cj_or, cj_xor, cj_shl, cj_shr, cj_ushr, cj_div, cj_i2c, cj_i2b, cj_dc, ck_and, ck_or, ck_xor, ck_shl, ck_shr, ck_ushr, ck_i2l, ck_l2i, ck_cmp]) ?_
    exact xZ.jrete (me := xm88) hP_88 rfl rfl rfl
def f_LRule_holds_337 (O : Nat → Option va_E) (f : Nat) : Nat → Nat → Nat → Int → Int → Int → xM → Option (Int × xM)
  | 0, _, _, _, _, _, _ => none
  | n + 1, v0, v1, v2, v5, v6, M =>
    (isO O M v1 14).bind fun _ =>
    xcl (f_LDays_last O f v1 v2 M) fun x1 M1 =>
    if yw x1 < yw v6 then (
      f_LRule_holds_372 O f v0 v1 v2 v5 M1
    ) else
    (gJ O M1 v0 16 3).bind fun x2 =>
    (gR O M1 v1 14 3).bind fun x3 =>
    (aJ O M1 x3 v6).bind fun x4 =>
    xlet (v5 + (jand (jshr x2 (jand x4 31)) 1)) fun x5 =>
    f_LRule_holds_337 O f n v0 v1 v2 x5 (v6 + 1) M1
set_option maxRecDepth 20000 in
theorem k_f_LRule_holds_337 (O : Nat → Option va_E) (f d : Nat) : ∀ (n : Nat) (v0 : Nat) (v1 : Nat) (v2 : Int) (v5 : Int) (v6 : Int) (M : xM), xZ oJ O (d + 2) 88 337 [(0, .ref v0), (1, .ref v1), (2, .int (yw v2)), (5, .int (yw v5)), (6, .int (yw v6))] [] M (f_LRule_holds_337 O f n v0 v1 v2 v5 v6 M) := by
  intro n
  induction n with
  | zero =>
    intro v0 v1 v2 v5 v6 M
    exact xZ.no
  | succ n ih =>
    intro v0 v1 v2 v5 v6 M
    unfold f_LRule_holds_337
    refine xZ.adv (me := xm88) hP_88 3 (pc' := 341) (lv' := [(0, .ref v0), (1, .ref v1), (2, .int (yw v2)), (5, .int (yw v5)), (6, .int (yw v6))]) (st' := [.int (yw v2), .ref v1, .int (yw v6)]) rfl ?_
    refine xZ.callv (κ := oJ) (av := [.int (yw v2)]) (rest := [.int (yw v6)]) (st' := fun x1 => [.int (yw x1), .int (yw v6)]) (k0 := v1) (me := xm88) hP_88 rfl (Or.inl rfl) ⟨rfl, by decide⟩ rfl rfl (Nat.le_of_ble_eq_true rfl) (by decide) hP_89 (Nat.le_of_ble_eq_true rfl) (fun _ => rfl) (k_f_LDays_last O f (d + 0) v1 v2 M) (fun x1 M1 => ?_)
    refine xZ.jc_gt (me := xm88) hP_88 rfl (fun h1 => ?_) (fun h1 => ?_)
    · skip
      exact xZ.sub (xsc (.head _) (xsc (.tail _ (.head _)) (xsc (.tail _ (.tail _ (.head _))) (xsc (.tail _ (.tail _ (.tail _ (.head _)))) xsn)))) (show ([0, 1, 2, 5, 6] : List Nat).Nodup from by decide) (k_f_LRule_holds_372 O f d v0 v1 v2 v5 M1)
    · skip
      refine xZ.adv (me := xm88) hP_88 2 (pc' := 350) (lv' := [(0, .ref v0), (1, .ref v1), (2, .int (yw v2)), (5, .int (yw v5)), (6, .int (yw v6))]) (st' := [.ref v0, .int (yw v5)]) rfl ?_
      refine xZ.k_gJ (me := xm88) hP_88 rfl (fun x2 => ?_)
      refine xZ.adv (me := xm88) hP_88 1 (pc' := 354) (lv' := [(0, .ref v0), (1, .ref v1), (2, .int (yw v2)), (5, .int (yw v5)), (6, .int (yw v6))]) (st' := [.ref v1, .int (yw x2), .int (yw v5)]) rfl ?_
      refine xZ.k_gR (me := xm88) hP_88 rfl (fun x3 => ?_)
      refine xZ.adv (me := xm88) hP_88 1 (pc' := 359) (lv' := [(0, .ref v0), (1, .ref v1), (2, .int (yw v2)), (5, .int (yw v5)), (6, .int (yw v6))]) (st' := [.int (yw v6), .ref x3, .int (yw x2), .int (yw v5)]) rfl ?_
      refine xZ.k_aJ (me := xm88) hP_88 rfl (fun x4 => ?_)
      refine xZ.adv (me := xm88) hP_88 5 (pc' := 366) (lv' := [(5, .int ((yw v5) + (((yw x2) >>> ((yw x4) &&& 31)) &&& (1 : Int32)))), (0, .ref v0), (1, .ref v1), (2, .int (yw v2)), (6, .int (yw v6))]) (st' := []) rfl ?_
      refine xZ.eqs (lv2 := [(5, .int (yw (v5 + (jand (jshr x2 (jand x4 31)) 1)))), (0, .ref v0), (1, .ref v1), (2, .int (yw v2)), (6, .int (yw v6))]) (st2 := []) (by simp only [yl_lit, yL_lit, yw_add, yw_sub, yw_mul, yw_neg, yl_add, yl_sub, yl_mul, cj_and, cj_or, cj_xor, cj_shl, cj_shr, cj_ushr, cj_div, cj_i2c, cj_i2b, cj_dc, ck_and, ck_or, ck_xor, ck_shl, ck_shr, ck_ushr, ck_i2l, ck_l2i, ck_cmp]) rfl ?_
      refine xZ.letI (v := (v5 + (jand (jshr x2 (jand x4 31)) 1))) (lvf := fun x5 => [(5, .int (yw x5)), (0, .ref v0), (1, .ref v1), (2, .int (yw v2)), (6, .int (yw v6))]) (stf := fun x5 => []) ?_
      intro x5
      refine xZ.adv (me := xm88) hP_88 2 (pc' := 337) (lv' := [(6, .int ((yw v6) + (1 : Int32))), (5, .int (yw x5)), (0, .ref v0), (1, .ref v1), (2, .int (yw v2))]) (st' := []) rfl ?_
      refine xZ.eqs (lv2 := [(6, .int (yw (v6 + 1))), (5, .int (yw x5)), (0, .ref v0), (1, .ref v1), (2, .int (yw v2))]) (st2 := []) (by simp only [yl_lit, yL_lit, yw_add, yw_sub, yw_mul, yw_neg, yl_add, yl_sub, yl_mul, cj_and, cj_or, cj_xor, cj_shl, cj_shr, cj_ushr, cj_div, cj_i2c, cj_i2b, cj_dc, ck_and, ck_or, ck_xor, ck_shl, ck_shr, ck_ushr, ck_i2l, ck_l2i, ck_cmp]) rfl ?_
      exact xZ.sub (xsc (.tail _ (.tail _ (.head _))) (xsc (.tail _ (.tail _ (.tail _ (.head _)))) (xsc (.tail _ (.tail _ (.tail _ (.tail _ (.head _))))) (xsc (.tail _ (.head _)) (xsc (.head _) xsn))))) (show ([6, 5, 0, 1, 2] : List Nat).Nodup from by decide) (ih v0 v1 v2 x5 (v6 + 1) M1)
def f_LRule_holds_81 (O : Nat → Option va_E) (f : Nat) (K57 : Nat → Nat → Int → Int → Int → xM → Option (Int × xM)) (v0 : Nat) (v1 : Nat) (v2 : Int) (v4 : Int) (s0 : Int) (s1 : Int) (M : xM) : Option (Int × xM) :=
  K57 v0 v1 v2 (s0 + s1) (v4 + 1) M
set_option maxRecDepth 20000 in
theorem k_f_LRule_holds_81 (O : Nat → Option va_E) (f d : Nat) (K57 : Nat → Nat → Int → Int → Int → xM → Option (Int × xM)) (hK57 : ∀ (v0 : Nat) (v1 : Nat) (v2 : Int) (v3 : Int) (v4 : Int) M, xZ oJ O (d + 2) 88 57 [(0, .ref v0), (1, .ref v1), (2, .int (yw v2)), (3, .int (yw v3)), (4, .int (yw v4))] [] M (K57 v0 v1 v2 v3 v4 M)) (v0 : Nat) (v1 : Nat) (v2 : Int) (v4 : Int) (s0 : Int) (s1 : Int) (M : xM) : xZ oJ O (d + 2) 88 81 [(0, .ref v0), (1, .ref v1), (2, .int (yw v2)), (4, .int (yw v4))] [.int (yw s1), .int (yw s0)] M (f_LRule_holds_81 O f K57 v0 v1 v2 v4 s0 s1 M) := by
  unfold f_LRule_holds_81
  refine xZ.adv (me := xm88) hP_88 4 (pc' := 57) (lv' := [(4, .int ((yw v4) + (1 : Int32))), (3, .int ((yw s0) + (yw s1))), (0, .ref v0), (1, .ref v1), (2, .int (yw v2))]) (st' := []) rfl ?_
  refine xZ.eqs (lv2 := [(4, .int (yw (v4 + 1))), (3, .int (yw (s0 + s1))), (0, .ref v0), (1, .ref v1), (2, .int (yw v2))]) (st2 := []) (by simp only [yl_lit, yL_lit, yw_add, yw_sub, yw_mul, yw_neg, yl_add, yl_sub, yl_mul, cj_and, cj_or, cj_xor, cj_shl, cj_shr, cj_ushr, cj_div, cj_i2c, cj_i2b, cj_dc, ck_and, ck_or, ck_xor, ck_shl, ck_shr, ck_ushr, ck_i2l, ck_l2i, ck_cmp]) rfl ?_
  exact xZ.sub (xsc (.tail _ (.tail _ (.head _))) (xsc (.tail _ (.tail _ (.tail _ (.head _)))) (xsc (.tail _ (.tail _ (.tail _ (.tail _ (.head _))))) (xsc (.tail _ (.head _)) (xsc (.head _) xsn))))) (show ([4, 3, 0, 1, 2] : List Nat).Nodup from by decide) (hK57 v0 v1 v2 (s0 + s1) (v4 + 1) M)
def f_LRule_holds_300 (O : Nat → Option va_E) (f : Nat) : Nat → Nat → Nat → Int → Int → Int → xM → Option (Int × xM)
  | 0, _, _, _, _, _, _ => none
  | n + 1, v0, v1, v2, v5, v6, M =>
    if yw v2 < yw v6 then (
      f_LRule_holds_372 O f v0 v1 v2 v5 M
    ) else
    (gJ O M v0 16 3).bind fun x1 =>
    (gR O M v1 14 3).bind fun x2 =>
    (aJ O M x2 v6).bind fun x3 =>
    xlet (v5 + (jand (jshr x1 (jand x3 31)) 1)) fun x4 =>
    f_LRule_holds_300 O f n v0 v1 v2 x4 (v6 + 1) M
set_option maxRecDepth 20000 in
theorem k_f_LRule_holds_300 (O : Nat → Option va_E) (f d : Nat) : ∀ (n : Nat) (v0 : Nat) (v1 : Nat) (v2 : Int) (v5 : Int) (v6 : Int) (M : xM), xZ oJ O (d + 2) 88 300 [(0, .ref v0), (1, .ref v1), (2, .int (yw v2)), (5, .int (yw v5)), (6, .int (yw v6))] [] M (f_LRule_holds_300 O f n v0 v1 v2 v5 v6 M) := by
  intro n
  induction n with
  | zero =>
    intro v0 v1 v2 v5 v6 M
    exact xZ.no
  | succ n ih =>
    intro v0 v1 v2 v5 v6 M
    unfold f_LRule_holds_300
    refine xZ.adv (me := xm88) hP_88 2 (pc' := 303) (lv' := [(0, .ref v0), (1, .ref v1), (2, .int (yw v2)), (5, .int (yw v5)), (6, .int (yw v6))]) (st' := [.int (yw v2), .int (yw v6)]) rfl ?_
    refine xZ.jc_gt (me := xm88) hP_88 rfl (fun h1 => ?_) (fun h1 => ?_)
    · skip
      refine xZ.adv (me := xm88) hP_88 1 (pc' := 372) (lv' := [(0, .ref v0), (1, .ref v1), (2, .int (yw v2)), (5, .int (yw v5)), (6, .int (yw v6))]) (st' := []) rfl ?_
      exact xZ.sub (xsc (.head _) (xsc (.tail _ (.head _)) (xsc (.tail _ (.tail _ (.head _))) (xsc (.tail _ (.tail _ (.tail _ (.head _)))) xsn)))) (show ([0, 1, 2, 5, 6] : List Nat).Nodup from by decide) (k_f_LRule_holds_372 O f d v0 v1 v2 v5 M)
    · skip
      refine xZ.adv (me := xm88) hP_88 2 (pc' := 309) (lv' := [(0, .ref v0), (1, .ref v1), (2, .int (yw v2)), (5, .int (yw v5)), (6, .int (yw v6))]) (st' := [.ref v0, .int (yw v5)]) rfl ?_
      refine xZ.k_gJ (me := xm88) hP_88 rfl (fun x1 => ?_)
      refine xZ.adv (me := xm88) hP_88 1 (pc' := 313) (lv' := [(0, .ref v0), (1, .ref v1), (2, .int (yw v2)), (5, .int (yw v5)), (6, .int (yw v6))]) (st' := [.ref v1, .int (yw x1), .int (yw v5)]) rfl ?_
      refine xZ.k_gR (me := xm88) hP_88 rfl (fun x2 => ?_)
      refine xZ.adv (me := xm88) hP_88 1 (pc' := 318) (lv' := [(0, .ref v0), (1, .ref v1), (2, .int (yw v2)), (5, .int (yw v5)), (6, .int (yw v6))]) (st' := [.int (yw v6), .ref x2, .int (yw x1), .int (yw v5)]) rfl ?_
      refine xZ.k_aJ (me := xm88) hP_88 rfl (fun x3 => ?_)
      refine xZ.adv (me := xm88) hP_88 5 (pc' := 325) (lv' := [(5, .int ((yw v5) + (((yw x1) >>> ((yw x3) &&& 31)) &&& (1 : Int32)))), (0, .ref v0), (1, .ref v1), (2, .int (yw v2)), (6, .int (yw v6))]) (st' := []) rfl ?_
      refine xZ.eqs (lv2 := [(5, .int (yw (v5 + (jand (jshr x1 (jand x3 31)) 1)))), (0, .ref v0), (1, .ref v1), (2, .int (yw v2)), (6, .int (yw v6))]) (st2 := []) (by simp only [yl_lit, yL_lit, yw_add, yw_sub, yw_mul, yw_neg, yl_add, yl_sub, yl_mul, cj_and, cj_or, cj_xor, cj_shl, cj_shr, cj_ushr, cj_div, cj_i2c, cj_i2b, cj_dc, ck_and, ck_or, ck_xor, ck_shl, ck_shr, ck_ushr, ck_i2l, ck_l2i, ck_cmp]) rfl ?_
      refine xZ.letI (v := (v5 + (jand (jshr x1 (jand x3 31)) 1))) (lvf := fun x4 => [(5, .int (yw x4)), (0, .ref v0), (1, .ref v1), (2, .int (yw v2)), (6, .int (yw v6))]) (stf := fun x4 => []) ?_
      intro x4
      refine xZ.adv (me := xm88) hP_88 2 (pc' := 300) (lv' := [(6, .int ((yw v6) + (1 : Int32))), (5, .int (yw x4)), (0, .ref v0), (1, .ref v1), (2, .int (yw v2))]) (st' := []) rfl ?_
      refine xZ.eqs (lv2 := [(6, .int (yw (v6 + 1))), (5, .int (yw x4)), (0, .ref v0), (1, .ref v1), (2, .int (yw v2))]) (st2 := []) (by simp only [yl_lit, yL_lit, yw_add, yw_sub, yw_mul, yw_neg, yl_add, yl_sub, yl_mul, cj_and, cj_or, cj_xor, cj_shl, cj_shr, cj_ushr, cj_div, cj_i2c, cj_i2b, cj_dc, ck_and, ck_or, ck_xor, ck_shl, ck_shr, ck_ushr, ck_i2l, ck_l2i, ck_cmp]) rfl ?_
      exact xZ.sub (xsc (.tail _ (.tail _ (.head _))) (xsc (.tail _ (.tail _ (.tail _ (.head _)))) (xsc (.tail _ (.tail _ (.tail _ (.tail _ (.head _))))) (xsc (.tail _ (.head _)) (xsc (.head _) xsn))))) (show ([6, 5, 0, 1, 2] : List Nat).Nodup from by decide) (ih v0 v1 v2 x4 (v6 + 1) M)
def f_LRule_holds_57 (O : Nat → Option va_E) (f : Nat) : Nat → Nat → Nat → Int → Int → Int → xM → Option (Int × xM)
  | 0, _, _, _, _, _, _ => none
  | n + 1, v0, v1, v2, v3, v4, M =>
    if yw v2 ≤ yw v4 then (
      (gJ O M v0 16 1).bind fun x1 =>
      if yw x1 = yw 2 then (
        (gJ O M v0 16 2).bind fun x2 =>
        if yw x2 = yw 0 then none else xlet (v3 - (jdiv v3 x2) * x2) fun x3 =>
        if yw x3 = yw 0 then (
          (gJ O M v0 16 3).bind fun x4 =>
          (gR O M v1 14 3).bind fun x5 =>
          (aJ O M x5 v2).bind fun x6 =>
          if yw (jand (jshr x4 (jand x6 31)) 1) = yw 1 then (
            some (1, M)
          ) else
          some (0, M)
        ) else
        some (0, M)
      ) else
      (gR O M v1 14 0).bind fun x7 =>
      (aJ O M x7 v2).bind fun x8 =>
      (gR O M v1 14 0).bind fun x9 =>
      (gJ O M v0 16 0).bind fun x10 =>
      (aJ O M x9 x10).bind fun x11 =>
      (gR O M v1 14 1).bind fun x12 =>
      (aJ O M x12 v2).bind fun x13 =>
      (gR O M v1 14 1).bind fun x14 =>
      (gJ O M v0 16 0).bind fun x15 =>
      (aJ O M x14 x15).bind fun x16 =>
      xlet (((12 * (x8 - x11)) + x13) - x16) fun x17 =>
      (gJ O M v0 16 1).bind fun x18 =>
      if yw x18 = yw 5 then (
        (gJ O M v0 16 2).bind fun x19 =>
        if yw (12 * x19) = yw 0 then none else xlet (x17 - (jdiv x17 (12 * x19)) * (12 * x19)) fun x20 =>
        if yw x20 = yw 0 then (
          (gR O M v1 14 2).bind fun x21 =>
          (aJ O M x21 v2).bind fun x22 =>
          (gR O M v1 14 2).bind fun x23 =>
          (gJ O M v0 16 0).bind fun x24 =>
          (aJ O M x23 x24).bind fun x25 =>
          if yw x22 = yw x25 then (
            some (1, M)
          ) else
          some (0, M)
        ) else
        some (0, M)
      ) else
      (gJ O M v0 16 2).bind fun x26 =>
      if yw x26 = yw 0 then none else xlet (x17 - (jdiv x17 x26) * x26) fun x27 =>
      if yw x27 = yw 0 then (
        (gJ O M v0 16 1).bind fun x28 =>
        if yw x28 = yw 3 then (
          (gJ O M v0 16 4).bind fun x29 =>
          if yw x29 ≤ yw 0 then (
            (isO O M v1 14).bind fun _ =>
            xcl (f_LDays_last O f v1 v2 M) fun x30 M1 =>
            (gJ O M1 v0 16 4).bind fun x31 =>
            if yw (x30 - v2) = yw ((-x31) - 1) then (
              some (1, M1)
            ) else
            some (0, M1)
          ) else
          (gR O M v1 14 2).bind fun x32 =>
          (aJ O M x32 v2).bind fun x33 =>
          (gJ O M v0 16 4).bind fun x34 =>
          if yw x33 = yw x34 then (
            some (1, M)
          ) else
          some (0, M)
        ) else
        (gJ O M v0 16 4).bind fun x35 =>
        if yw x35 ≤ yw 0 then (
          f_LRule_holds_337 O f f v0 v1 v2 0 v2 M
        ) else
        (isO O M v1 14).bind fun _ =>
        xcl (f_LDays_first O f v1 v2 M) fun x36 M2 =>
        f_LRule_holds_300 O f f v0 v1 v2 0 x36 M2
      ) else
      some (0, M)
    ) else
    (gR O M v1 14 3).bind fun x37 =>
    (aJ O M x37 v4).bind fun x38 =>
    if yw x38 = yw 6 then (
      f_LRule_holds_81 O f (f_LRule_holds_57 O f n) v0 v1 v2 v4 v3 1 M
    ) else
    f_LRule_holds_81 O f (f_LRule_holds_57 O f n) v0 v1 v2 v4 v3 0 M
set_option maxRecDepth 20000 in
theorem k_f_LRule_holds_57 (O : Nat → Option va_E) (f d : Nat) : ∀ (n : Nat) (v0 : Nat) (v1 : Nat) (v2 : Int) (v3 : Int) (v4 : Int) (M : xM), xZ oJ O (d + 2) 88 57 [(0, .ref v0), (1, .ref v1), (2, .int (yw v2)), (3, .int (yw v3)), (4, .int (yw v4))] [] M (f_LRule_holds_57 O f n v0 v1 v2 v3 v4 M) := by
  intro n
  induction n with
  | zero =>
    intro v0 v1 v2 v3 v4 M
    exact xZ.no
  | succ n ih =>
    intro v0 v1 v2 v3 v4 M
    unfold f_LRule_holds_57
    refine xZ.adv (me := xm88) hP_88 2 (pc' := 60) (lv' := [(0, .ref v0), (1, .ref v1), (2, .int (yw v2)), (3, .int (yw v3)), (4, .int (yw v4))]) (st' := [.int (yw v2), .int (yw v4)]) rfl ?_
    refine xZ.jc_ge (me := xm88) hP_88 rfl (fun h1 => ?_) (fun h1 => ?_)
    · skip
      refine xZ.adv (me := xm88) hP_88 1 (pc' := 90) (lv' := [(0, .ref v0), (1, .ref v1), (2, .int (yw v2)), (3, .int (yw v3)), (4, .int (yw v4))]) (st' := [.ref v0]) rfl ?_
      refine xZ.k_gJ (me := xm88) hP_88 rfl (fun x1 => ?_)
      refine xZ.adv (me := xm88) hP_88 1 (pc' := 94) (lv' := [(0, .ref v0), (1, .ref v1), (2, .int (yw v2)), (3, .int (yw v3)), (4, .int (yw v4))]) (st' := [.int (2 : Int32), .int (yw x1)]) rfl ?_
      refine xZ.eqs (lv2 := [(0, .ref v0), (1, .ref v1), (2, .int (yw v2)), (3, .int (yw v3)), (4, .int (yw v4))]) (st2 := [.int (yw 2), .int (yw x1)]) rfl (by simp only [yl_lit, yL_lit, yw_add, yw_sub, yw_mul, yw_neg, yl_add, yl_sub, yl_mul, cj_and, cj_or, cj_xor, cj_shl, cj_shr, cj_ushr, cj_div, cj_i2c, cj_i2b, cj_dc, ck_and, ck_or, ck_xor, ck_shl, ck_shr, ck_ushr, ck_i2l, ck_l2i, ck_cmp]) ?_
      refine xZ.jc_ne (me := xm88) hP_88 rfl (fun h2 => ?_) (fun h2 => ?_)
      · skip
        refine xZ.adv (me := xm88) hP_88 2 (pc' := 99) (lv' := [(0, .ref v0), (1, .ref v1), (2, .int (yw v2)), (3, .int (yw v3)), (4, .int (yw v4))]) (st' := [.ref v0, .int (yw v3)]) rfl ?_
        refine xZ.k_gJ (me := xm88) hP_88 rfl (fun x2 => ?_)
        refine xZ.k_jrem (me := xm88) hP_88 rfl (fun x3 => ?_)
        refine xZ.jf_ne (me := xm88) hP_88 rfl (fun h3 => ?_) (fun h3 => ?_)
        · skip
          refine xZ.adv (me := xm88) hP_88 1 (pc' := 107) (lv' := [(0, .ref v0), (1, .ref v1), (2, .int (yw v2)), (3, .int (yw v3)), (4, .int (yw v4))]) (st' := [.ref v0]) rfl ?_
          refine xZ.k_gJ (me := xm88) hP_88 rfl (fun x4 => ?_)
          refine xZ.adv (me := xm88) hP_88 1 (pc' := 111) (lv' := [(0, .ref v0), (1, .ref v1), (2, .int (yw v2)), (3, .int (yw v3)), (4, .int (yw v4))]) (st' := [.ref v1, .int (yw x4)]) rfl ?_
          refine xZ.k_gR (me := xm88) hP_88 rfl (fun x5 => ?_)
          refine xZ.adv (me := xm88) hP_88 1 (pc' := 115) (lv' := [(0, .ref v0), (1, .ref v1), (2, .int (yw v2)), (3, .int (yw v3)), (4, .int (yw v4))]) (st' := [.int (yw v2), .ref x5, .int (yw x4)]) rfl ?_
          refine xZ.k_aJ (me := xm88) hP_88 rfl (fun x6 => ?_)
          refine xZ.adv (me := xm88) hP_88 4 (pc' := 120) (lv' := [(0, .ref v0), (1, .ref v1), (2, .int (yw v2)), (3, .int (yw v3)), (4, .int (yw v4))]) (st' := [.int (1 : Int32), .int (((yw x4) >>> ((yw x6) &&& 31)) &&& (1 : Int32))]) rfl ?_
          refine xZ.eqs (lv2 := [(0, .ref v0), (1, .ref v1), (2, .int (yw v2)), (3, .int (yw v3)), (4, .int (yw v4))]) (st2 := [.int (yw 1), .int (yw (jand (jshr x4 (jand x6 31)) 1))]) rfl (by simp only [yl_lit, yL_lit, yw_add, yw_sub, yw_mul, yw_neg, yl_add, yl_sub, yl_mul, cj_and, cj_or, cj_xor, cj_shl, cj_shr, cj_ushr, cj_div, cj_i2c, cj_i2b, cj_dc, ck_and, ck_or, ck_xor, ck_shl, ck_shr, ck_ushr, ck_i2l, ck_l2i, ck_cmp]) ?_
          refine xZ.jc_ne (me := xm88) hP_88 rfl (fun h4 => ?_) (fun h4 => ?_)
          · skip
            refine xZ.adv (me := xm88) hP_88 2 (pc' := 128) (lv' := [(0, .ref v0), (1, .ref v1), (2, .int (yw v2)), (3, .int (yw v3)), (4, .int (yw v4))]) (st' := [.int (1 : Int32)]) rfl ?_
            refine xZ.eqs (lv2 := [(0, .ref v0), (1, .ref v1), (2, .int (yw v2)), (3, .int (yw v3)), (4, .int (yw v4))]) (st2 := [.int (yw 1)]) rfl (by simp only [yl_lit, yL_lit, yw_add, yw_sub, yw_mul, yw_neg, yl_add, yl_sub, yl_mul, cj_and, cj_or, cj_xor, cj_shl, cj_shr, cj_ushr, cj_div, cj_i2c, cj_i2b, cj_dc, ck_and, ck_or, ck_xor, ck_shl, ck_shr, ck_ushr, ck_i2l, ck_l2i, ck_cmp]) ?_
            exact xZ.jrete (me := xm88) hP_88 rfl rfl rfl
          · skip
            refine xZ.adv (me := xm88) hP_88 1 (pc' := 128) (lv' := [(0, .ref v0), (1, .ref v1), (2, .int (yw v2)), (3, .int (yw v3)), (4, .int (yw v4))]) (st' := [.int (0 : Int32)]) rfl ?_
            refine xZ.eqs (lv2 := [(0, .ref v0), (1, .ref v1), (2, .int (yw v2)), (3, .int (yw v3)), (4, .int (yw v4))]) (st2 := [.int (yw 0)]) rfl (by simp only [yl_lit, yL_lit, yw_add, yw_sub, yw_mul, yw_neg, yl_add, yl_sub, yl_mul, cj_and, cj_or, cj_xor, cj_shl, cj_shr, cj_ushr, cj_div, cj_i2c, cj_i2b, cj_dc, ck_and, ck_or, ck_xor, ck_shl, ck_shr, ck_ushr, ck_i2l, ck_l2i, ck_cmp]) ?_
            exact xZ.jrete (me := xm88) hP_88 rfl rfl rfl
        · skip
          refine xZ.adv (me := xm88) hP_88 1 (pc' := 128) (lv' := [(0, .ref v0), (1, .ref v1), (2, .int (yw v2)), (3, .int (yw v3)), (4, .int (yw v4))]) (st' := [.int (0 : Int32)]) rfl ?_
          refine xZ.eqs (lv2 := [(0, .ref v0), (1, .ref v1), (2, .int (yw v2)), (3, .int (yw v3)), (4, .int (yw v4))]) (st2 := [.int (yw 0)]) rfl (by simp only [yl_lit, yL_lit, yw_add, yw_sub, yw_mul, yw_neg, yl_add, yl_sub, yl_mul, cj_and, cj_or, cj_xor, cj_shl, cj_shr, cj_ushr, cj_div, cj_i2c, cj_i2b, cj_dc, ck_and, ck_or, ck_xor, ck_shl, ck_shr, ck_ushr, ck_i2l, ck_l2i, ck_cmp]) ?_
          exact xZ.jrete (me := xm88) hP_88 rfl rfl rfl
      · skip
        refine xZ.adv (me := xm88) hP_88 2 (pc' := 132) (lv' := [(0, .ref v0), (1, .ref v1), (2, .int (yw v2)), (3, .int (yw v3)), (4, .int (yw v4))]) (st' := [.ref v1, .int (12 : Int32)]) rfl ?_
        refine xZ.eqs (lv2 := [(0, .ref v0), (1, .ref v1), (2, .int (yw v2)), (3, .int (yw v3)), (4, .int (yw v4))]) (st2 := [.ref v1, .int (yw 12)]) rfl (by simp only [yl_lit, yL_lit, yw_add, yw_sub, yw_mul, yw_neg, yl_add, yl_sub, yl_mul, cj_and, cj_or, cj_xor, cj_shl, cj_shr, cj_ushr, cj_div, cj_i2c, cj_i2b, cj_dc, ck_and, ck_or, ck_xor, ck_shl, ck_shr, ck_ushr, ck_i2l, ck_l2i, ck_cmp]) ?_
        refine xZ.k_gR (me := xm88) hP_88 rfl (fun x7 => ?_)
        refine xZ.adv (me := xm88) hP_88 1 (pc' := 136) (lv' := [(0, .ref v0), (1, .ref v1), (2, .int (yw v2)), (3, .int (yw v3)), (4, .int (yw v4))]) (st' := [.int (yw v2), .ref x7, .int (yw 12)]) rfl ?_
        refine xZ.k_aJ (me := xm88) hP_88 rfl (fun x8 => ?_)
        refine xZ.adv (me := xm88) hP_88 1 (pc' := 138) (lv' := [(0, .ref v0), (1, .ref v1), (2, .int (yw v2)), (3, .int (yw v3)), (4, .int (yw v4))]) (st' := [.ref v1, .int (yw x8), .int (yw 12)]) rfl ?_
        refine xZ.k_gR (me := xm88) hP_88 rfl (fun x9 => ?_)
        refine xZ.adv (me := xm88) hP_88 1 (pc' := 142) (lv' := [(0, .ref v0), (1, .ref v1), (2, .int (yw v2)), (3, .int (yw v3)), (4, .int (yw v4))]) (st' := [.ref v0, .ref x9, .int (yw x8), .int (yw 12)]) rfl ?_
        refine xZ.k_gJ (me := xm88) hP_88 rfl (fun x10 => ?_)
        refine xZ.k_aJ (me := xm88) hP_88 rfl (fun x11 => ?_)
        refine xZ.adv (me := xm88) hP_88 3 (pc' := 149) (lv' := [(0, .ref v0), (1, .ref v1), (2, .int (yw v2)), (3, .int (yw v3)), (4, .int (yw v4))]) (st' := [.ref v1, .int ((yw 12) * ((yw x8) - (yw x11)))]) rfl ?_
        refine xZ.eqs (lv2 := [(0, .ref v0), (1, .ref v1), (2, .int (yw v2)), (3, .int (yw v3)), (4, .int (yw v4))]) (st2 := [.ref v1, .int (yw (12 * (x8 - x11)))]) rfl (by simp only [yl_lit, yL_lit, yw_add, yw_sub, yw_mul, yw_neg, yl_add, yl_sub, yl_mul, cj_and, cj_or, cj_xor, cj_shl, cj_shr, cj_ushr, cj_div, cj_i2c, cj_i2b, cj_dc, ck_and, ck_or, ck_xor, ck_shl, ck_shr, ck_ushr, ck_i2l, ck_l2i, ck_cmp]) ?_
        refine xZ.k_gR (me := xm88) hP_88 rfl (fun x12 => ?_)
        refine xZ.adv (me := xm88) hP_88 1 (pc' := 153) (lv' := [(0, .ref v0), (1, .ref v1), (2, .int (yw v2)), (3, .int (yw v3)), (4, .int (yw v4))]) (st' := [.int (yw v2), .ref x12, .int (yw (12 * (x8 - x11)))]) rfl ?_
        refine xZ.k_aJ (me := xm88) hP_88 rfl (fun x13 => ?_)
        refine xZ.adv (me := xm88) hP_88 2 (pc' := 156) (lv' := [(0, .ref v0), (1, .ref v1), (2, .int (yw v2)), (3, .int (yw v3)), (4, .int (yw v4))]) (st' := [.ref v1, .int ((yw (12 * (x8 - x11))) + (yw x13))]) rfl ?_
        refine xZ.eqs (lv2 := [(0, .ref v0), (1, .ref v1), (2, .int (yw v2)), (3, .int (yw v3)), (4, .int (yw v4))]) (st2 := [.ref v1, .int (yw ((12 * (x8 - x11)) + x13))]) rfl (by simp only [yl_lit, yL_lit, yw_add, yw_sub, yw_mul, yw_neg, yl_add, yl_sub, yl_mul, cj_and, cj_or, cj_xor, cj_shl, cj_shr, cj_ushr, cj_div, cj_i2c, cj_i2b, cj_dc, ck_and, ck_or, ck_xor, ck_shl, ck_shr, ck_ushr, ck_i2l, ck_l2i, ck_cmp]) ?_
        refine xZ.k_gR (me := xm88) hP_88 rfl (fun x14 => ?_)
        refine xZ.adv (me := xm88) hP_88 1 (pc' := 160) (lv' := [(0, .ref v0), (1, .ref v1), (2, .int (yw v2)), (3, .int (yw v3)), (4, .int (yw v4))]) (st' := [.ref v0, .ref x14, .int (yw ((12 * (x8 - x11)) + x13))]) rfl ?_
        refine xZ.k_gJ (me := xm88) hP_88 rfl (fun x15 => ?_)
        refine xZ.k_aJ (me := xm88) hP_88 rfl (fun x16 => ?_)
        refine xZ.adv (me := xm88) hP_88 2 (pc' := 167) (lv' := [(4, .int ((yw ((12 * (x8 - x11)) + x13)) - (yw x16))), (0, .ref v0), (1, .ref v1), (2, .int (yw v2)), (3, .int (yw v3))]) (st' := []) rfl ?_
        refine xZ.eqs (lv2 := [(4, .int (yw (((12 * (x8 - x11)) + x13) - x16))), (0, .ref v0), (1, .ref v1), (2, .int (yw v2)), (3, .int (yw v3))]) (st2 := []) (by simp only [yl_lit, yL_lit, yw_add, yw_sub, yw_mul, yw_neg, yl_add, yl_sub, yl_mul, cj_and, cj_or, cj_xor, cj_shl, cj_shr, cj_ushr, cj_div, cj_i2c, cj_i2b, cj_dc, ck_and, ck_or, ck_xor, ck_shl, ck_shr, ck_ushr, ck_i2l, ck_l2i, ck_cmp]) rfl ?_
        refine xZ.letI (v := (((12 * (x8 - x11)) + x13) - x16)) (lvf := fun x17 => [(4, .int (yw x17)), (0, .ref v0), (1, .ref v1), (2, .int (yw v2)), (3, .int (yw v3))]) (stf := fun x17 => []) ?_
        intro x17
        refine xZ.adv (me := xm88) hP_88 1 (pc' := 168) (lv' := [(4, .int (yw x17)), (0, .ref v0), (1, .ref v1), (2, .int (yw v2)), (3, .int (yw v3))]) (st' := [.ref v0]) rfl ?_
        refine xZ.k_gJ (me := xm88) hP_88 rfl (fun x18 => ?_)
        refine xZ.adv (me := xm88) hP_88 1 (pc' := 172) (lv' := [(4, .int (yw x17)), (0, .ref v0), (1, .ref v1), (2, .int (yw v2)), (3, .int (yw v3))]) (st' := [.int (5 : Int32), .int (yw x18)]) rfl ?_
        refine xZ.eqs (lv2 := [(4, .int (yw x17)), (0, .ref v0), (1, .ref v1), (2, .int (yw v2)), (3, .int (yw v3))]) (st2 := [.int (yw 5), .int (yw x18)]) rfl (by simp only [yl_lit, yL_lit, yw_add, yw_sub, yw_mul, yw_neg, yl_add, yl_sub, yl_mul, cj_and, cj_or, cj_xor, cj_shl, cj_shr, cj_ushr, cj_div, cj_i2c, cj_i2b, cj_dc, ck_and, ck_or, ck_xor, ck_shl, ck_shr, ck_ushr, ck_i2l, ck_l2i, ck_cmp]) ?_
        refine xZ.jc_ne (me := xm88) hP_88 rfl (fun h5 => ?_) (fun h5 => ?_)
        · skip
          refine xZ.adv (me := xm88) hP_88 3 (pc' := 180) (lv' := [(4, .int (yw x17)), (0, .ref v0), (1, .ref v1), (2, .int (yw v2)), (3, .int (yw v3))]) (st' := [.ref v0, .int (12 : Int32), .int (yw x17)]) rfl ?_
          refine xZ.eqs (lv2 := [(4, .int (yw x17)), (0, .ref v0), (1, .ref v1), (2, .int (yw v2)), (3, .int (yw v3))]) (st2 := [.ref v0, .int (yw 12), .int (yw x17)]) rfl (by simp only [yl_lit, yL_lit, yw_add, yw_sub, yw_mul, yw_neg, yl_add, yl_sub, yl_mul, cj_and, cj_or, cj_xor, cj_shl, cj_shr, cj_ushr, cj_div, cj_i2c, cj_i2b, cj_dc, ck_and, ck_or, ck_xor, ck_shl, ck_shr, ck_ushr, ck_i2l, ck_l2i, ck_cmp]) ?_
          refine xZ.k_gJ (me := xm88) hP_88 rfl (fun x19 => ?_)
          refine xZ.adv (me := xm88) hP_88 1 (pc' := 184) (lv' := [(4, .int (yw x17)), (0, .ref v0), (1, .ref v1), (2, .int (yw v2)), (3, .int (yw v3))]) (st' := [.int ((yw 12) * (yw x19)), .int (yw x17)]) rfl ?_
          refine xZ.eqs (lv2 := [(4, .int (yw x17)), (0, .ref v0), (1, .ref v1), (2, .int (yw v2)), (3, .int (yw v3))]) (st2 := [.int (yw (12 * x19)), .int (yw x17)]) rfl (by simp only [yl_lit, yL_lit, yw_add, yw_sub, yw_mul, yw_neg, yl_add, yl_sub, yl_mul, cj_and, cj_or, cj_xor, cj_shl, cj_shr, cj_ushr, cj_div, cj_i2c, cj_i2b, cj_dc, ck_and, ck_or, ck_xor, ck_shl, ck_shr, ck_ushr, ck_i2l, ck_l2i, ck_cmp]) ?_
          refine xZ.k_jrem (me := xm88) hP_88 rfl (fun x20 => ?_)
          refine xZ.jf_ne (me := xm88) hP_88 rfl (fun h6 => ?_) (fun h6 => ?_)
          · skip
            refine xZ.adv (me := xm88) hP_88 1 (pc' := 189) (lv' := [(4, .int (yw x17)), (0, .ref v0), (1, .ref v1), (2, .int (yw v2)), (3, .int (yw v3))]) (st' := [.ref v1]) rfl ?_
            refine xZ.k_gR (me := xm88) hP_88 rfl (fun x21 => ?_)
            refine xZ.adv (me := xm88) hP_88 1 (pc' := 193) (lv' := [(4, .int (yw x17)), (0, .ref v0), (1, .ref v1), (2, .int (yw v2)), (3, .int (yw v3))]) (st' := [.int (yw v2), .ref x21]) rfl ?_
            refine xZ.k_aJ (me := xm88) hP_88 rfl (fun x22 => ?_)
            refine xZ.adv (me := xm88) hP_88 1 (pc' := 195) (lv' := [(4, .int (yw x17)), (0, .ref v0), (1, .ref v1), (2, .int (yw v2)), (3, .int (yw v3))]) (st' := [.ref v1, .int (yw x22)]) rfl ?_
            refine xZ.k_gR (me := xm88) hP_88 rfl (fun x23 => ?_)
            refine xZ.adv (me := xm88) hP_88 1 (pc' := 199) (lv' := [(4, .int (yw x17)), (0, .ref v0), (1, .ref v1), (2, .int (yw v2)), (3, .int (yw v3))]) (st' := [.ref v0, .ref x23, .int (yw x22)]) rfl ?_
            refine xZ.k_gJ (me := xm88) hP_88 rfl (fun x24 => ?_)
            refine xZ.k_aJ (me := xm88) hP_88 rfl (fun x25 => ?_)
            refine xZ.jc_ne (me := xm88) hP_88 rfl (fun h7 => ?_) (fun h7 => ?_)
            · skip
              refine xZ.adv (me := xm88) hP_88 2 (pc' := 211) (lv' := [(4, .int (yw x17)), (0, .ref v0), (1, .ref v1), (2, .int (yw v2)), (3, .int (yw v3))]) (st' := [.int (1 : Int32)]) rfl ?_
              refine xZ.eqs (lv2 := [(4, .int (yw x17)), (0, .ref v0), (1, .ref v1), (2, .int (yw v2)), (3, .int (yw v3))]) (st2 := [.int (yw 1)]) rfl (by simp only [yl_lit, yL_lit, yw_add, yw_sub, yw_mul, yw_neg, yl_add, yl_sub, yl_mul, cj_and, cj_or, cj_xor, cj_shl, cj_shr, cj_ushr, cj_div, cj_i2c, cj_i2b, cj_dc, ck_and, ck_or, ck_xor, ck_shl, ck_shr, ck_ushr, ck_i2l, ck_l2i, ck_cmp]) ?_
              exact xZ.jrete (me := xm88) hP_88 rfl rfl rfl
            · skip
              refine xZ.adv (me := xm88) hP_88 1 (pc' := 211) (lv' := [(4, .int (yw x17)), (0, .ref v0), (1, .ref v1), (2, .int (yw v2)), (3, .int (yw v3))]) (st' := [.int (0 : Int32)]) rfl ?_
              refine xZ.eqs (lv2 := [(4, .int (yw x17)), (0, .ref v0), (1, .ref v1), (2, .int (yw v2)), (3, .int (yw v3))]) (st2 := [.int (yw 0)]) rfl (by simp only [yl_lit, yL_lit, yw_add, yw_sub, yw_mul, yw_neg, yl_add, yl_sub, yl_mul, cj_and, cj_or, cj_xor, cj_shl, cj_shr, cj_ushr, cj_div, cj_i2c, cj_i2b, cj_dc, ck_and, ck_or, ck_xor, ck_shl, ck_shr, ck_ushr, ck_i2l, ck_l2i, ck_cmp]) ?_
              exact xZ.jrete (me := xm88) hP_88 rfl rfl rfl
          · skip
            refine xZ.adv (me := xm88) hP_88 1 (pc' := 211) (lv' := [(4, .int (yw x17)), (0, .ref v0), (1, .ref v1), (2, .int (yw v2)), (3, .int (yw v3))]) (st' := [.int (0 : Int32)]) rfl ?_
            refine xZ.eqs (lv2 := [(4, .int (yw x17)), (0, .ref v0), (1, .ref v1), (2, .int (yw v2)), (3, .int (yw v3))]) (st2 := [.int (yw 0)]) rfl (by simp only [yl_lit, yL_lit, yw_add, yw_sub, yw_mul, yw_neg, yl_add, yl_sub, yl_mul, cj_and, cj_or, cj_xor, cj_shl, cj_shr, cj_ushr, cj_div, cj_i2c, cj_i2b, cj_dc, ck_and, ck_or, ck_xor, ck_shl, ck_shr, ck_ushr, ck_i2l, ck_l2i, ck_cmp]) ?_
            exact xZ.jrete (me := xm88) hP_88 rfl rfl rfl
        · skip
          refine xZ.adv (me := xm88) hP_88 2 (pc' := 215) (lv' := [(4, .int (yw x17)), (0, .ref v0), (1, .ref v1), (2, .int (yw v2)), (3, .int (yw v3))]) (st' := [.ref v0, .int (yw x17)]) rfl ?_
          refine xZ.k_gJ (me := xm88) hP_88 rfl (fun x26 => ?_)
          refine xZ.k_jrem (me := xm88) hP_88 rfl (fun x27 => ?_)
          refine xZ.jf_eq (me := xm88) hP_88 rfl (fun h8 => ?_) (fun h8 => ?_)
          · skip
            refine xZ.adv (me := xm88) hP_88 1 (pc' := 225) (lv' := [(4, .int (yw x17)), (0, .ref v0), (1, .ref v1), (2, .int (yw v2)), (3, .int (yw v3))]) (st' := [.ref v0]) rfl ?_
            refine xZ.k_gJ (me := xm88) hP_88 rfl (fun x28 => ?_)
            refine xZ.adv (me := xm88) hP_88 1 (pc' := 229) (lv' := [(4, .int (yw x17)), (0, .ref v0), (1, .ref v1), (2, .int (yw v2)), (3, .int (yw v3))]) (st' := [.int (3 : Int32), .int (yw x28)]) rfl ?_
            refine xZ.eqs (lv2 := [(4, .int (yw x17)), (0, .ref v0), (1, .ref v1), (2, .int (yw v2)), (3, .int (yw v3))]) (st2 := [.int (yw 3), .int (yw x28)]) rfl (by simp only [yl_lit, yL_lit, yw_add, yw_sub, yw_mul, yw_neg, yl_add, yl_sub, yl_mul, cj_and, cj_or, cj_xor, cj_shl, cj_shr, cj_ushr, cj_div, cj_i2c, cj_i2b, cj_dc, ck_and, ck_or, ck_xor, ck_shl, ck_shr, ck_ushr, ck_i2l, ck_l2i, ck_cmp]) ?_
            refine xZ.jc_ne (me := xm88) hP_88 rfl (fun h9 => ?_) (fun h9 => ?_)
            · skip
              refine xZ.adv (me := xm88) hP_88 1 (pc' := 233) (lv' := [(4, .int (yw x17)), (0, .ref v0), (1, .ref v1), (2, .int (yw v2)), (3, .int (yw v3))]) (st' := [.ref v0]) rfl ?_
              refine xZ.k_gJ (me := xm88) hP_88 rfl (fun x29 => ?_)
              refine xZ.jf_le (me := xm88) hP_88 rfl (fun h10 => ?_) (fun h10 => ?_)
              · skip
                refine xZ.adv (me := xm88) hP_88 2 (pc' := 262) (lv' := [(4, .int (yw x17)), (0, .ref v0), (1, .ref v1), (2, .int (yw v2)), (3, .int (yw v3))]) (st' := [.int (yw v2), .ref v1]) rfl ?_
                refine xZ.callv (κ := oJ) (av := [.int (yw v2)]) (rest := []) (st' := fun x30 => [.int (yw x30)]) (k0 := v1) (me := xm88) hP_88 rfl (Or.inl rfl) ⟨rfl, by decide⟩ rfl rfl (Nat.le_of_ble_eq_true rfl) (by decide) hP_89 (Nat.le_of_ble_eq_true rfl) (fun _ => rfl) (k_f_LDays_last O f (d + 0) v1 v2 M) (fun x30 M1 => ?_)
                refine xZ.adv (me := xm88) hP_88 3 (pc' := 268) (lv' := [(4, .int (yw x17)), (0, .ref v0), (1, .ref v1), (2, .int (yw v2)), (3, .int (yw v3))]) (st' := [.ref v0, .int ((yw x30) - (yw v2))]) rfl ?_
                refine xZ.eqs (lv2 := [(4, .int (yw x17)), (0, .ref v0), (1, .ref v1), (2, .int (yw v2)), (3, .int (yw v3))]) (st2 := [.ref v0, .int (yw (x30 - v2))]) rfl (by simp only [yl_lit, yL_lit, yw_add, yw_sub, yw_mul, yw_neg, yl_add, yl_sub, yl_mul, cj_and, cj_or, cj_xor, cj_shl, cj_shr, cj_ushr, cj_div, cj_i2c, cj_i2b, cj_dc, ck_and, ck_or, ck_xor, ck_shl, ck_shr, ck_ushr, ck_i2l, ck_l2i, ck_cmp]) ?_
                refine xZ.k_gJ (me := xm88) hP_88 rfl (fun x31 => ?_)
                refine xZ.adv (me := xm88) hP_88 3 (pc' := 274) (lv' := [(4, .int (yw x17)), (0, .ref v0), (1, .ref v1), (2, .int (yw v2)), (3, .int (yw v3))]) (st' := [.int ((-(yw x31)) - (1 : Int32)), .int (yw (x30 - v2))]) rfl ?_
                refine xZ.eqs (lv2 := [(4, .int (yw x17)), (0, .ref v0), (1, .ref v1), (2, .int (yw v2)), (3, .int (yw v3))]) (st2 := [.int (yw ((-x31) - 1)), .int (yw (x30 - v2))]) rfl (by simp only [yl_lit, yL_lit, yw_add, yw_sub, yw_mul, yw_neg, yl_add, yl_sub, yl_mul, cj_and, cj_or, cj_xor, cj_shl, cj_shr, cj_ushr, cj_div, cj_i2c, cj_i2b, cj_dc, ck_and, ck_or, ck_xor, ck_shl, ck_shr, ck_ushr, ck_i2l, ck_l2i, ck_cmp]) ?_
                refine xZ.jc_ne (me := xm88) hP_88 rfl (fun h11 => ?_) (fun h11 => ?_)
                · skip
                  refine xZ.adv (me := xm88) hP_88 2 (pc' := 282) (lv' := [(4, .int (yw x17)), (0, .ref v0), (1, .ref v1), (2, .int (yw v2)), (3, .int (yw v3))]) (st' := [.int (1 : Int32)]) rfl ?_
                  refine xZ.eqs (lv2 := [(4, .int (yw x17)), (0, .ref v0), (1, .ref v1), (2, .int (yw v2)), (3, .int (yw v3))]) (st2 := [.int (yw 1)]) rfl (by simp only [yl_lit, yL_lit, yw_add, yw_sub, yw_mul, yw_neg, yl_add, yl_sub, yl_mul, cj_and, cj_or, cj_xor, cj_shl, cj_shr, cj_ushr, cj_div, cj_i2c, cj_i2b, cj_dc, ck_and, ck_or, ck_xor, ck_shl, ck_shr, ck_ushr, ck_i2l, ck_l2i, ck_cmp]) ?_
                  exact xZ.jrete (me := xm88) hP_88 rfl rfl rfl
                · skip
                  refine xZ.adv (me := xm88) hP_88 1 (pc' := 282) (lv' := [(4, .int (yw x17)), (0, .ref v0), (1, .ref v1), (2, .int (yw v2)), (3, .int (yw v3))]) (st' := [.int (0 : Int32)]) rfl ?_
                  refine xZ.eqs (lv2 := [(4, .int (yw x17)), (0, .ref v0), (1, .ref v1), (2, .int (yw v2)), (3, .int (yw v3))]) (st2 := [.int (yw 0)]) rfl (by simp only [yl_lit, yL_lit, yw_add, yw_sub, yw_mul, yw_neg, yl_add, yl_sub, yl_mul, cj_and, cj_or, cj_xor, cj_shl, cj_shr, cj_ushr, cj_div, cj_i2c, cj_i2b, cj_dc, ck_and, ck_or, ck_xor, ck_shl, ck_shr, ck_ushr, ck_i2l, ck_l2i, ck_cmp]) ?_
                  exact xZ.jrete (me := xm88) hP_88 rfl rfl rfl
              · skip
                refine xZ.adv (me := xm88) hP_88 1 (pc' := 240) (lv' := [(4, .int (yw x17)), (0, .ref v0), (1, .ref v1), (2, .int (yw v2)), (3, .int (yw v3))]) (st' := [.ref v1]) rfl ?_
                refine xZ.k_gR (me := xm88) hP_88 rfl (fun x32 => ?_)
                refine xZ.adv (me := xm88) hP_88 1 (pc' := 244) (lv' := [(4, .int (yw x17)), (0, .ref v0), (1, .ref v1), (2, .int (yw v2)), (3, .int (yw v3))]) (st' := [.int (yw v2), .ref x32]) rfl ?_
                refine xZ.k_aJ (me := xm88) hP_88 rfl (fun x33 => ?_)
                refine xZ.adv (me := xm88) hP_88 1 (pc' := 246) (lv' := [(4, .int (yw x17)), (0, .ref v0), (1, .ref v1), (2, .int (yw v2)), (3, .int (yw v3))]) (st' := [.ref v0, .int (yw x33)]) rfl ?_
                refine xZ.k_gJ (me := xm88) hP_88 rfl (fun x34 => ?_)
                refine xZ.jc_ne (me := xm88) hP_88 rfl (fun h12 => ?_) (fun h12 => ?_)
                · skip
                  refine xZ.adv (me := xm88) hP_88 2 (pc' := 282) (lv' := [(4, .int (yw x17)), (0, .ref v0), (1, .ref v1), (2, .int (yw v2)), (3, .int (yw v3))]) (st' := [.int (1 : Int32)]) rfl ?_
                  refine xZ.eqs (lv2 := [(4, .int (yw x17)), (0, .ref v0), (1, .ref v1), (2, .int (yw v2)), (3, .int (yw v3))]) (st2 := [.int (yw 1)]) rfl (by simp only [yl_lit, yL_lit, yw_add, yw_sub, yw_mul, yw_neg, yl_add, yl_sub, yl_mul, cj_and, cj_or, cj_xor, cj_shl, cj_shr, cj_ushr, cj_div, cj_i2c, cj_i2b, cj_dc, ck_and, ck_or, ck_xor, ck_shl, ck_shr, ck_ushr, ck_i2l, ck_l2i, ck_cmp]) ?_
                  exact xZ.jrete (me := xm88) hP_88 rfl rfl rfl
                · skip
                  refine xZ.adv (me := xm88) hP_88 2 (pc' := 282) (lv' := [(4, .int (yw x17)), (0, .ref v0), (1, .ref v1), (2, .int (yw v2)), (3, .int (yw v3))]) (st' := [.int (0 : Int32)]) rfl ?_
                  refine xZ.eqs (lv2 := [(4, .int (yw x17)), (0, .ref v0), (1, .ref v1), (2, .int (yw v2)), (3, .int (yw v3))]) (st2 := [.int (yw 0)]) rfl (by simp only [yl_lit, yL_lit, yw_add, yw_sub, yw_mul, yw_neg, yl_add, yl_sub, yl_mul, cj_and, cj_or, cj_xor, cj_shl, cj_shr, cj_ushr, cj_div, cj_i2c, cj_i2b, cj_dc, ck_and, ck_or, ck_xor, ck_shl, ck_shr, ck_ushr, ck_i2l, ck_l2i, ck_cmp]) ?_
                  exact xZ.jrete (me := xm88) hP_88 rfl rfl rfl
            · skip
              refine xZ.adv (me := xm88) hP_88 3 (pc' := 287) (lv' := [(5, .int (0 : Int32)), (4, .int (yw x17)), (0, .ref v0), (1, .ref v1), (2, .int (yw v2)), (3, .int (yw v3))]) (st' := [.ref v0]) rfl ?_
              refine xZ.eqs (lv2 := [(5, .int (yw 0)), (4, .int (yw x17)), (0, .ref v0), (1, .ref v1), (2, .int (yw v2)), (3, .int (yw v3))]) (st2 := [.ref v0]) (by simp only [yl_lit, yL_lit, yw_add, yw_sub, yw_mul, yw_neg, yl_add, yl_sub, yl_mul, cj_and, cj_or, cj_xor, cj_shl, cj_shr, cj_ushr, cj_div, cj_i2c, cj_i2b, cj_dc, ck_and, ck_or, ck_xor, ck_shl, ck_shr, ck_ushr, ck_i2l, ck_l2i, ck_cmp]) rfl ?_
              refine xZ.k_gJ (me := xm88) hP_88 rfl (fun x35 => ?_)
              refine xZ.jf_le (me := xm88) hP_88 rfl (fun h13 => ?_) (fun h13 => ?_)
              · skip
                refine xZ.adv (me := xm88) hP_88 2 (pc' := 337) (lv' := [(6, .int (yw v2)), (5, .int (yw 0)), (4, .int (yw x17)), (0, .ref v0), (1, .ref v1), (2, .int (yw v2)), (3, .int (yw v3))]) (st' := []) rfl ?_
                exact xZ.sub (xsc (.tail _ (.tail _ (.tail _ (.head _)))) (xsc (.tail _ (.tail _ (.tail _ (.tail _ (.head _))))) (xsc (.tail _ (.tail _ (.tail _ (.tail _ (.tail _ (.head _)))))) (xsc (.tail _ (.head _)) (xsc (.head _) xsn))))) (show ([6, 5, 4, 0, 1, 2, 3] : List Nat).Nodup from by decide) (k_f_LRule_holds_337 O f d f v0 v1 v2 0 v2 M)
              · skip
                refine xZ.adv (me := xm88) hP_88 2 (pc' := 295) (lv' := [(5, .int (yw 0)), (4, .int (yw x17)), (0, .ref v0), (1, .ref v1), (2, .int (yw v2)), (3, .int (yw v3))]) (st' := [.int (yw v2), .ref v1]) rfl ?_
                refine xZ.callv (κ := oJ) (av := [.int (yw v2)]) (rest := []) (st' := fun x36 => [.int (yw x36)]) (k0 := v1) (me := xm88) hP_88 rfl (Or.inl rfl) ⟨rfl, by decide⟩ rfl rfl (Nat.le_of_ble_eq_true rfl) (by decide) hP_90 (Nat.le_of_ble_eq_true rfl) (fun _ => rfl) (k_f_LDays_first O f (d + 1) v1 v2 M) (fun x36 M2 => ?_)
                refine xZ.adv (me := xm88) hP_88 1 (pc' := 300) (lv' := [(6, .int (yw x36)), (5, .int (yw 0)), (4, .int (yw x17)), (0, .ref v0), (1, .ref v1), (2, .int (yw v2)), (3, .int (yw v3))]) (st' := []) rfl ?_
                exact xZ.sub (xsc (.tail _ (.tail _ (.tail _ (.head _)))) (xsc (.tail _ (.tail _ (.tail _ (.tail _ (.head _))))) (xsc (.tail _ (.tail _ (.tail _ (.tail _ (.tail _ (.head _)))))) (xsc (.tail _ (.head _)) (xsc (.head _) xsn))))) (show ([6, 5, 4, 0, 1, 2, 3] : List Nat).Nodup from by decide) (k_f_LRule_holds_300 O f d f v0 v1 v2 0 x36 M2)
          · skip
            refine xZ.adv (me := xm88) hP_88 1 (pc' := 223) (lv' := [(4, .int (yw x17)), (0, .ref v0), (1, .ref v1), (2, .int (yw v2)), (3, .int (yw v3))]) (st' := [.int (0 : Int32)]) rfl ?_
            refine xZ.eqs (lv2 := [(4, .int (yw x17)), (0, .ref v0), (1, .ref v1), (2, .int (yw v2)), (3, .int (yw v3))]) (st2 := [.int (yw 0)]) rfl (by simp only [yl_lit, yL_lit, yw_add, yw_sub, yw_mul, yw_neg, yl_add, yl_sub, yl_mul, cj_and, cj_or, cj_xor, cj_shl, cj_shr, cj_ushr, cj_div, cj_i2c, cj_i2b, cj_dc, ck_and, ck_or, ck_xor, ck_shl, ck_shr, ck_ushr, ck_i2l, ck_l2i, ck_cmp]) ?_
            exact xZ.jrete (me := xm88) hP_88 rfl rfl rfl
    · skip
      refine xZ.adv (me := xm88) hP_88 2 (pc' := 65) (lv' := [(0, .ref v0), (1, .ref v1), (2, .int (yw v2)), (3, .int (yw v3)), (4, .int (yw v4))]) (st' := [.ref v1, .int (yw v3)]) rfl ?_
      refine xZ.k_gR (me := xm88) hP_88 rfl (fun x37 => ?_)
      refine xZ.adv (me := xm88) hP_88 1 (pc' := 70) (lv' := [(0, .ref v0), (1, .ref v1), (2, .int (yw v2)), (3, .int (yw v3)), (4, .int (yw v4))]) (st' := [.int (yw v4), .ref x37, .int (yw v3)]) rfl ?_
      refine xZ.k_aJ (me := xm88) hP_88 rfl (fun x38 => ?_)
      refine xZ.adv (me := xm88) hP_88 1 (pc' := 73) (lv' := [(0, .ref v0), (1, .ref v1), (2, .int (yw v2)), (3, .int (yw v3)), (4, .int (yw v4))]) (st' := [.int (6 : Int32), .int (yw x38), .int (yw v3)]) rfl ?_
      refine xZ.eqs (lv2 := [(0, .ref v0), (1, .ref v1), (2, .int (yw v2)), (3, .int (yw v3)), (4, .int (yw v4))]) (st2 := [.int (yw 6), .int (yw x38), .int (yw v3)]) rfl (by simp only [yl_lit, yL_lit, yw_add, yw_sub, yw_mul, yw_neg, yl_add, yl_sub, yl_mul, cj_and, cj_or, cj_xor, cj_shl, cj_shr, cj_ushr, cj_div, cj_i2c, cj_i2b, cj_dc, ck_and, ck_or, ck_xor, ck_shl, ck_shr, ck_ushr, ck_i2l, ck_l2i, ck_cmp]) ?_
      refine xZ.jc_ne (me := xm88) hP_88 rfl (fun h14 => ?_) (fun h14 => ?_)
      · skip
        refine xZ.adv (me := xm88) hP_88 2 (pc' := 81) (lv' := [(0, .ref v0), (1, .ref v1), (2, .int (yw v2)), (3, .int (yw v3)), (4, .int (yw v4))]) (st' := [.int (1 : Int32), .int (yw v3)]) rfl ?_
        refine xZ.eqs (lv2 := [(0, .ref v0), (1, .ref v1), (2, .int (yw v2)), (3, .int (yw v3)), (4, .int (yw v4))]) (st2 := [.int (yw 1), .int (yw v3)]) rfl (by simp only [yl_lit, yL_lit, yw_add, yw_sub, yw_mul, yw_neg, yl_add, yl_sub, yl_mul, cj_and, cj_or, cj_xor, cj_shl, cj_shr, cj_ushr, cj_div, cj_i2c, cj_i2b, cj_dc, ck_and, ck_or, ck_xor, ck_shl, ck_shr, ck_ushr, ck_i2l, ck_l2i, ck_cmp]) ?_
        exact xZ.sub (xsc (.head _) (xsc (.tail _ (.head _)) (xsc (.tail _ (.tail _ (.head _))) (xsc (.tail _ (.tail _ (.tail _ (.tail _ (.head _))))) xsn)))) (show ([0, 1, 2, 3, 4] : List Nat).Nodup from by decide) (k_f_LRule_holds_81 O f d (f_LRule_holds_57 O f n) ih v0 v1 v2 v4 v3 1 M)
      · skip
        refine xZ.adv (me := xm88) hP_88 1 (pc' := 81) (lv' := [(0, .ref v0), (1, .ref v1), (2, .int (yw v2)), (3, .int (yw v3)), (4, .int (yw v4))]) (st' := [.int (0 : Int32), .int (yw v3)]) rfl ?_
        refine xZ.eqs (lv2 := [(0, .ref v0), (1, .ref v1), (2, .int (yw v2)), (3, .int (yw v3)), (4, .int (yw v4))]) (st2 := [.int (yw 0), .int (yw v3)]) rfl (by simp only [yl_lit, yL_lit, yw_add, yw_sub, yw_mul, yw_neg, yl_add, yl_sub, yl_mul, cj_and, cj_or, cj_xor, cj_shl, cj_shr, cj_ushr, cj_div, cj_i2c, cj_i2b, cj_dc, ck_and, ck_or, ck_xor, ck_shl, ck_shr, ck_ushr, ck_i2l, ck_l2i, ck_cmp]) ?_
        exact xZ.sub (xsc (.head _) (xsc (.tail _ (.head _)) (xsc (.tail _ (.tail _ (.head _))) (xsc (.tail _ (.tail _ (.tail _ (.tail _ (.head _))))) xsn)))) (show ([0, 1, 2, 3, 4] : List Nat).Nodup from by decide) (k_f_LRule_holds_81 O f d (f_LRule_holds_57 O f n) ih v0 v1 v2 v4 v3 0 M)
def f_LRule_holds (O : Nat → Option va_E) (f : Nat) (v0 : Nat) (v1 : Nat) (v2 : Int) (M : xM) : Option (Int × xM) :=
  (gJ O M v0 16 1).bind fun x1 =>
  if yw x1 = yw 0 then (
    (gJ O M v0 16 0).bind fun x2 =>
    if yw v2 = yw x2 then (
      some (1, M)
    ) else
    some (0, M)
  ) else
  (gJ O M v0 16 1).bind fun x3 =>
  if yw x3 = yw 1 then (
    (gJ O M v0 16 0).bind fun x4 =>
    (gJ O M v0 16 2).bind fun x5 =>
    if yw x5 = yw 0 then none else xlet ((v2 - x4) - (jdiv (v2 - x4) x5) * x5) fun x6 =>
    if yw x6 = yw 0 then (
      some (1, M)
    ) else
    some (0, M)
  ) else
  (gJ O M v0 16 0).bind fun x7 =>
  f_LRule_holds_57 O f f v0 v1 v2 0 x7 M
set_option maxRecDepth 20000 in
theorem k_f_LRule_holds (O : Nat → Option va_E) (f d : Nat) (v0 : Nat) (v1 : Nat) (v2 : Int) (M : xM) : xZ oJ O (d + 2) 88 0 [(0, .ref v0), (1, .ref v1), (2, .int (yw v2))] [] M (f_LRule_holds O f v0 v1 v2 M) := by
  unfold f_LRule_holds
  refine xZ.adv (me := xm88) hP_88 1 (pc' := 1) (lv' := [(0, .ref v0), (1, .ref v1), (2, .int (yw v2))]) (st' := [.ref v0]) rfl ?_
  refine xZ.k_gJ (me := xm88) hP_88 rfl (fun x1 => ?_)
  refine xZ.jf_ne (me := xm88) hP_88 rfl (fun h1 => ?_) (fun h1 => ?_)
  · skip
    refine xZ.adv (me := xm88) hP_88 2 (pc' := 9) (lv' := [(0, .ref v0), (1, .ref v1), (2, .int (yw v2))]) (st' := [.ref v0, .int (yw v2)]) rfl ?_
    refine xZ.k_gJ (me := xm88) hP_88 rfl (fun x2 => ?_)
    refine xZ.jc_ne (me := xm88) hP_88 rfl (fun h2 => ?_) (fun h2 => ?_)
    · skip
      refine xZ.adv (me := xm88) hP_88 2 (pc' := 20) (lv' := [(0, .ref v0), (1, .ref v1), (2, .int (yw v2))]) (st' := [.int (1 : Int32)]) rfl ?_
      refine xZ.eqs (lv2 := [(0, .ref v0), (1, .ref v1), (2, .int (yw v2))]) (st2 := [.int (yw 1)]) rfl (by simp only [yl_lit, yL_lit, yw_add, yw_sub, yw_mul, yw_neg, yl_add, yl_sub, yl_mul, cj_and, cj_or, cj_xor, cj_shl, cj_shr, cj_ushr, cj_div, cj_i2c, cj_i2b, cj_dc, ck_and, ck_or, ck_xor, ck_shl, ck_shr, ck_ushr, ck_i2l, ck_l2i, ck_cmp]) ?_
      exact xZ.jrete (me := xm88) hP_88 rfl rfl rfl
    · skip
      refine xZ.adv (me := xm88) hP_88 1 (pc' := 20) (lv' := [(0, .ref v0), (1, .ref v1), (2, .int (yw v2))]) (st' := [.int (0 : Int32)]) rfl ?_
      refine xZ.eqs (lv2 := [(0, .ref v0), (1, .ref v1), (2, .int (yw v2))]) (st2 := [.int (yw 0)]) rfl (by simp only [yl_lit, yL_lit, yw_add, yw_sub, yw_mul, yw_neg, yl_add, yl_sub, yl_mul, cj_and, cj_or, cj_xor, cj_shl, cj_shr, cj_ushr, cj_div, cj_i2c, cj_i2b, cj_dc, ck_and, ck_or, ck_xor, ck_shl, ck_shr, ck_ushr, ck_i2l, ck_l2i, ck_cmp]) ?_
      exact xZ.jrete (me := xm88) hP_88 rfl rfl rfl
  · skip
    refine xZ.adv (me := xm88) hP_88 1 (pc' := 22) (lv' := [(0, .ref v0), (1, .ref v1), (2, .int (yw v2))]) (st' := [.ref v0]) rfl ?_
    refine xZ.k_gJ (me := xm88) hP_88 rfl (fun x3 => ?_)
    refine xZ.adv (me := xm88) hP_88 1 (pc' := 26) (lv' := [(0, .ref v0), (1, .ref v1), (2, .int (yw v2))]) (st' := [.int (1 : Int32), .int (yw x3)]) rfl ?_
    refine xZ.eqs (lv2 := [(0, .ref v0), (1, .ref v1), (2, .int (yw v2))]) (st2 := [.int (yw 1), .int (yw x3)]) rfl (by simp only [yl_lit, yL_lit, yw_add, yw_sub, yw_mul, yw_neg, yl_add, yl_sub, yl_mul, cj_and, cj_or, cj_xor, cj_shl, cj_shr, cj_ushr, cj_div, cj_i2c, cj_i2b, cj_dc, ck_and, ck_or, ck_xor, ck_shl, ck_shr, ck_ushr, ck_i2l, ck_l2i, ck_cmp]) ?_
    refine xZ.jc_ne (me := xm88) hP_88 rfl (fun h3 => ?_) (fun h3 => ?_)
    · skip
      refine xZ.adv (me := xm88) hP_88 2 (pc' := 31) (lv' := [(0, .ref v0), (1, .ref v1), (2, .int (yw v2))]) (st' := [.ref v0, .int (yw v2)]) rfl ?_
      refine xZ.k_gJ (me := xm88) hP_88 rfl (fun x4 => ?_)
      refine xZ.adv (me := xm88) hP_88 2 (pc' := 36) (lv' := [(0, .ref v0), (1, .ref v1), (2, .int (yw v2))]) (st' := [.ref v0, .int ((yw v2) - (yw x4))]) rfl ?_
      refine xZ.eqs (lv2 := [(0, .ref v0), (1, .ref v1), (2, .int (yw v2))]) (st2 := [.ref v0, .int (yw (v2 - x4))]) rfl (by simp only [yl_lit, yL_lit, yw_add, yw_sub, yw_mul, yw_neg, yl_add, yl_sub, yl_mul, cj_and, cj_or, cj_xor, cj_shl, cj_shr, cj_ushr, cj_div, cj_i2c, cj_i2b, cj_dc, ck_and, ck_or, ck_xor, ck_shl, ck_shr, ck_ushr, ck_i2l, ck_l2i, ck_cmp]) ?_
      refine xZ.k_gJ (me := xm88) hP_88 rfl (fun x5 => ?_)
      refine xZ.k_jrem (me := xm88) hP_88 rfl (fun x6 => ?_)
      refine xZ.jf_ne (me := xm88) hP_88 rfl (fun h4 => ?_) (fun h4 => ?_)
      · skip
        refine xZ.adv (me := xm88) hP_88 2 (pc' := 48) (lv' := [(0, .ref v0), (1, .ref v1), (2, .int (yw v2))]) (st' := [.int (1 : Int32)]) rfl ?_
        refine xZ.eqs (lv2 := [(0, .ref v0), (1, .ref v1), (2, .int (yw v2))]) (st2 := [.int (yw 1)]) rfl (by simp only [yl_lit, yL_lit, yw_add, yw_sub, yw_mul, yw_neg, yl_add, yl_sub, yl_mul, cj_and, cj_or, cj_xor, cj_shl, cj_shr, cj_ushr, cj_div, cj_i2c, cj_i2b, cj_dc, ck_and, ck_or, ck_xor, ck_shl, ck_shr, ck_ushr, ck_i2l, ck_l2i, ck_cmp]) ?_
        exact xZ.jrete (me := xm88) hP_88 rfl rfl rfl
      · skip
        refine xZ.adv (me := xm88) hP_88 1 (pc' := 48) (lv' := [(0, .ref v0), (1, .ref v1), (2, .int (yw v2))]) (st' := [.int (0 : Int32)]) rfl ?_
        refine xZ.eqs (lv2 := [(0, .ref v0), (1, .ref v1), (2, .int (yw v2))]) (st2 := [.int (yw 0)]) rfl (by simp only [yl_lit, yL_lit, yw_add, yw_sub, yw_mul, yw_neg, yl_add, yl_sub, yl_mul, cj_and, cj_or, cj_xor, cj_shl, cj_shr, cj_ushr, cj_div, cj_i2c, cj_i2b, cj_dc, ck_and, ck_or, ck_xor, ck_shl, ck_shr, ck_ushr, ck_i2l, ck_l2i, ck_cmp]) ?_
        exact xZ.jrete (me := xm88) hP_88 rfl rfl rfl
    · skip
      refine xZ.adv (me := xm88) hP_88 3 (pc' := 52) (lv' := [(3, .int (0 : Int32)), (0, .ref v0), (1, .ref v1), (2, .int (yw v2))]) (st' := [.ref v0]) rfl ?_
      refine xZ.eqs (lv2 := [(3, .int (yw 0)), (0, .ref v0), (1, .ref v1), (2, .int (yw v2))]) (st2 := [.ref v0]) (by simp only [yl_lit, yL_lit, yw_add, yw_sub, yw_mul, yw_neg, yl_add, yl_sub, yl_mul, cj_and, cj_or, cj_xor, cj_shl, cj_shr, cj_ushr, cj_div, cj_i2c, cj_i2b, cj_dc, ck_and, ck_or, ck_xor, ck_shl, ck_shr, ck_ushr, ck_i2l, ck_l2i, ck_cmp]) rfl ?_
      refine xZ.k_gJ (me := xm88) hP_88 rfl (fun x7 => ?_)
      refine xZ.adv (me := xm88) hP_88 1 (pc' := 57) (lv' := [(4, .int (yw x7)), (3, .int (yw 0)), (0, .ref v0), (1, .ref v1), (2, .int (yw v2))]) (st' := []) rfl ?_
      exact xZ.sub (xsc (.tail _ (.tail _ (.head _))) (xsc (.tail _ (.tail _ (.tail _ (.head _)))) (xsc (.tail _ (.tail _ (.tail _ (.tail _ (.head _))))) (xsc (.tail _ (.head _)) (xsc (.head _) xsn))))) (show ([4, 3, 0, 1, 2] : List Nat).Nodup from by decide) (k_f_LRule_holds_57 O f d f v0 v1 v2 0 x7 M)
def f_Calendarhall_nextDay (O : Nat → Option va_E) (f : Nat) (v0 : Nat) (v1 : Int) (v2 : Int) (M : xM) : Option (Int × xM) :=
  (isO O M v0 12).bind fun _ =>
  xcl (f_Calendarhall_seriesNumbered O f v0 v1 M) fun x1 M1 =>
  xcl (f_Calendarhall_needDay O f v2 M1) fun _ M2 =>
  (gR O M2 x1 10 6).bind fun x3 =>
  (isO O M2 x3 9).bind fun _ =>
  xcl (f_Rule_next O f x3 v2 M2) fun x4 M3 =>
  some (x4, M3)
set_option maxRecDepth 20000 in
theorem k_f_Calendarhall_nextDay (O : Nat → Option va_E) (f d : Nat) (v0 : Nat) (v1 : Int) (v2 : Int) (M : xM) : xZ oJ O (d + 5) 91 0 [(0, .ref v0), (1, .int (yw v1)), (2, .int (yw v2))] [] M (f_Calendarhall_nextDay O f v0 v1 v2 M) := by
  unfold f_Calendarhall_nextDay
  refine xZ.adv (me := xm91) hP_91 2 (pc' := 2) (lv' := [(0, .ref v0), (1, .int (yw v1)), (2, .int (yw v2))]) (st' := [.int (yw v1), .ref v0]) rfl ?_
  refine xZ.callv (κ := oR) (av := [.int (yw v1)]) (rest := []) (st' := fun x1 => [.ref x1]) (k0 := v0) (me := xm91) hP_91 rfl (Or.inl rfl) ⟨rfl, by decide⟩ rfl rfl (Nat.le_of_ble_eq_true rfl) (by decide) hP_79 (Nat.le_of_ble_eq_true rfl) (fun _ => rfl) (k_f_Calendarhall_seriesNumbered O f (d + 3) v0 v1 M) (fun x1 M1 => ?_)
  refine xZ.adv (me := xm91) hP_91 2 (pc' := 7) (lv' := [(3, .ref x1), (0, .ref v0), (1, .int (yw v1)), (2, .int (yw v2))]) (st' := [.int (yw v2)]) rfl ?_
  refine xZ.calls (κ := oU) (av := [.int (yw v2)]) (rest := []) (st' := fun _ => []) (me := xm91) hP_91 rfl rfl rfl (Nat.le_of_ble_eq_true rfl) (by decide) hP_37 (Nat.le_of_ble_eq_true rfl) (fun _ => rfl) (k_f_Calendarhall_needDay O f (d + 4) v2 M1) (fun _ M2 => ?_)
  refine xZ.adv (me := xm91) hP_91 1 (pc' := 11) (lv' := [(3, .ref x1), (0, .ref v0), (1, .int (yw v1)), (2, .int (yw v2))]) (st' := [.ref x1]) rfl ?_
  refine xZ.k_gR (me := xm91) hP_91 rfl (fun x3 => ?_)
  refine xZ.adv (me := xm91) hP_91 1 (pc' := 15) (lv' := [(3, .ref x1), (0, .ref v0), (1, .int (yw v1)), (2, .int (yw v2))]) (st' := [.int (yw v2), .ref x3]) rfl ?_
  refine xZ.callv (κ := oJ) (av := [.int (yw v2)]) (rest := []) (st' := fun x4 => [.int (yw x4)]) (k0 := x3) (me := xm91) hP_91 rfl (Or.inl rfl) ⟨rfl, by decide⟩ rfl rfl (Nat.le_of_ble_eq_true rfl) (by decide) hP_45 (Nat.le_of_ble_eq_true rfl) (fun _ => rfl) (k_f_Rule_next O f (d + 0) x3 v2 M2) (fun x4 M3 => ?_)
  exact xZ.jreti (me := xm91) hP_91 rfl rfl
def f_Calendarhall_dayOfSeries (O : Nat → Option va_E) (f : Nat) (v0 : Nat) (v1 : Int) (v2 : Int) (M : xM) : Option (Int × xM) :=
  (isO O M v0 12).bind fun _ =>
  xcl (f_Calendarhall_seriesNumbered O f v0 v1 M) fun x1 M1 =>
  xcl (f_Calendarhall_needRange O f v2 0 500 M1) fun _ M2 =>
  (gR O M2 x1 10 6).bind fun x3 =>
  (isO O M2 x3 9).bind fun _ =>
  xcl (f_Rule_dayByPlace O f x3 v2 M2) fun x4 M3 =>
  if yw x4 = yw (-1) then (
    none
  ) else
  some (x4, M3)
set_option maxRecDepth 20000 in
theorem k_f_Calendarhall_dayOfSeries (O : Nat → Option va_E) (f d : Nat) (v0 : Nat) (v1 : Int) (v2 : Int) (M : xM) : xZ oJ O (d + 6) 92 0 [(0, .ref v0), (1, .int (yw v1)), (2, .int (yw v2))] [] M (f_Calendarhall_dayOfSeries O f v0 v1 v2 M) := by
  unfold f_Calendarhall_dayOfSeries
  refine xZ.adv (me := xm92) hP_92 2 (pc' := 2) (lv' := [(0, .ref v0), (1, .int (yw v1)), (2, .int (yw v2))]) (st' := [.int (yw v1), .ref v0]) rfl ?_
  refine xZ.callv (κ := oR) (av := [.int (yw v1)]) (rest := []) (st' := fun x1 => [.ref x1]) (k0 := v0) (me := xm92) hP_92 rfl (Or.inl rfl) ⟨rfl, by decide⟩ rfl rfl (Nat.le_of_ble_eq_true rfl) (by decide) hP_79 (Nat.le_of_ble_eq_true rfl) (fun _ => rfl) (k_f_Calendarhall_seriesNumbered O f (d + 4) v0 v1 M) (fun x1 M1 => ?_)
  refine xZ.adv (me := xm92) hP_92 4 (pc' := 11) (lv' := [(3, .ref x1), (0, .ref v0), (1, .int (yw v1)), (2, .int (yw v2))]) (st' := [.int (500 : Int32), .int (0 : Int32), .int (yw v2)]) rfl ?_
  refine xZ.eqs (lv2 := [(3, .ref x1), (0, .ref v0), (1, .int (yw v1)), (2, .int (yw v2))]) (st2 := [.int (yw 500), .int (yw 0), .int (yw v2)]) rfl (by simp only [yl_lit, yL_lit, yw_add, yw_sub, yw_mul, yw_neg, yl_add, yl_sub, yl_mul, cj_and, cj_or, cj_xor, cj_shl, cj_shr, cj_ushr, cj_div, cj_i2c, cj_i2b, cj_dc, ck_and, ck_or, ck_xor, ck_shl, ck_shr, ck_ushr, ck_i2l, ck_l2i, ck_cmp]) ?_
  refine xZ.calls (κ := oU) (av := [.int (yw v2), .int (yw 0), .int (yw 500)]) (rest := []) (st' := fun _ => []) (me := xm92) hP_92 rfl rfl rfl (Nat.le_of_ble_eq_true rfl) (by decide) hP_22 (Nat.le_of_ble_eq_true rfl) (fun _ => rfl) (k_f_Calendarhall_needRange O f (d + 5) v2 0 500 M1) (fun _ M2 => ?_)
  refine xZ.adv (me := xm92) hP_92 1 (pc' := 15) (lv' := [(3, .ref x1), (0, .ref v0), (1, .int (yw v1)), (2, .int (yw v2))]) (st' := [.ref x1]) rfl ?_
  refine xZ.k_gR (me := xm92) hP_92 rfl (fun x3 => ?_)
  refine xZ.adv (me := xm92) hP_92 1 (pc' := 19) (lv' := [(3, .ref x1), (0, .ref v0), (1, .int (yw v1)), (2, .int (yw v2))]) (st' := [.int (yw v2), .ref x3]) rfl ?_
  refine xZ.callv (κ := oJ) (av := [.int (yw v2)]) (rest := []) (st' := fun x4 => [.int (yw x4)]) (k0 := x3) (me := xm92) hP_92 rfl (Or.inl rfl) ⟨rfl, by decide⟩ rfl rfl (Nat.le_of_ble_eq_true rfl) (by decide) hP_44 (Nat.le_of_ble_eq_true rfl) (fun _ => rfl) (k_f_Rule_dayByPlace O f (d + 0) x3 v2 M2) (fun x4 M3 => ?_)
  refine xZ.adv (me := xm92) hP_92 3 (pc' := 27) (lv' := [(4, .int (yw x4)), (3, .ref x1), (0, .ref v0), (1, .int (yw v1)), (2, .int (yw v2))]) (st' := [.int (-1 : Int32), .int (yw x4)]) rfl ?_
  refine xZ.eqs (lv2 := [(4, .int (yw x4)), (3, .ref x1), (0, .ref v0), (1, .int (yw v1)), (2, .int (yw v2))]) (st2 := [.int (yw (-1)), .int (yw x4)]) rfl (by simp only [yl_lit, yL_lit, yw_add, yw_sub, yw_mul, yw_neg, yl_add, yl_sub, yl_mul, cj_and, cj_or, cj_xor, cj_shl, cj_shr, cj_ushr, cj_div, cj_i2c, cj_i2b, cj_dc, ck_and, ck_or, ck_xor, ck_shl, ck_shr, ck_ushr, ck_i2l, ck_l2i, ck_cmp]) ?_
  refine xZ.jc_ne (me := xm92) hP_92 rfl (fun h1 => ?_) (fun h1 => ?_)
  · skip
    exact xZ.no
  · skip
    refine xZ.adv (me := xm92) hP_92 1 (pc' := 40) (lv' := [(4, .int (yw x4)), (3, .ref x1), (0, .ref v0), (1, .int (yw v1)), (2, .int (yw v2))]) (st' := [.int (yw x4)]) rfl ?_
    exact xZ.jreti (me := xm92) hP_92 rfl rfl
def f_Rule_countByWeeks_66 (O : Nat → Option va_E) (f : Nat) (v0 : Nat) (v3 : Int) (s0 : Int) (M : xM) : Option (Int × xM) :=
  (gJ O M v0 9 0).bind fun x1 =>
  xcl (f_Days_weekdayOf O f x1 M) fun x2 M1 =>
  (gJ O M1 v0 9 3).bind fun x3 =>
  xcl (f_Integer_bitCount O f x3 M1) fun x4 M2 =>
  (gJ O M2 v0 9 3).bind fun x5 =>
  xcl (f_Integer_bitCount O f (jand x5 s0) M2) fun x6 M3 =>
  (gJ O M3 v0 9 3).bind fun x7 =>
  xcl (f_Integer_bitCount O f (jand x7 ((jshl 1 (jand x2 31)) - 1)) M3) fun x8 M4 =>
  some ((((v3 * x4) + x6) - x8), M4)
set_option maxRecDepth 20000 in
theorem k_f_Rule_countByWeeks_66 (O : Nat → Option va_E) (f d : Nat) (v0 : Nat) (v3 : Int) (s0 : Int) (M : xM) : xZ oJ O (d + 1) 95 66 [(0, .ref v0), (3, .int (yw v3))] [.int (yw s0)] M (f_Rule_countByWeeks_66 O f v0 v3 s0 M) := by
  unfold f_Rule_countByWeeks_66
  refine xZ.adv (me := xm95) hP_95 3 (pc' := 70) (lv' := [(4, .int (yw s0)), (0, .ref v0), (3, .int (yw v3))]) (st' := [.ref v0, .int (1 : Int32)]) rfl ?_
  refine xZ.eqs (lv2 := [(4, .int (yw s0)), (0, .ref v0), (3, .int (yw v3))]) (st2 := [.ref v0, .int (yw 1)]) rfl (by simp only [yl_lit, yL_lit, yw_add, yw_sub, yw_mul, yw_neg, yl_add, yl_sub, yl_mul, cj_and, cj_or, cj_xor, cj_shl, cj_shr, cj_ushr, cj_div, cj_i2c, cj_i2b, cj_dc, ck_and, ck_or, ck_xor, ck_shl, ck_shr, ck_ushr, ck_i2l, ck_l2i, ck_cmp]) ?_
  refine xZ.k_gJ (me := xm95) hP_95 rfl (fun x1 => ?_)
  refine xZ.calls (κ := oJ) (av := [.int (yw x1)]) (rest := [.int (yw 1)]) (st' := fun x2 => [.int (yw x2), .int (yw 1)]) (me := xm95) hP_95 rfl rfl rfl (Nat.le_of_ble_eq_true rfl) (by decide) hP_49 (Nat.le_of_ble_eq_true rfl) (fun _ => rfl) (k_f_Days_weekdayOf O f (d + 0) x1 M) (fun x2 M1 => ?_)
  refine xZ.adv (me := xm95) hP_95 6 (pc' := 83) (lv' := [(5, .int (((yw 1) <<< ((yw x2) &&& 31)) - (1 : Int32))), (4, .int (yw s0)), (0, .ref v0), (3, .int (yw v3))]) (st' := [.ref v0, .int (yw v3)]) rfl ?_
  refine xZ.eqs (lv2 := [(5, .int (yw ((jshl 1 (jand x2 31)) - 1))), (4, .int (yw s0)), (0, .ref v0), (3, .int (yw v3))]) (st2 := [.ref v0, .int (yw v3)]) (by simp only [yl_lit, yL_lit, yw_add, yw_sub, yw_mul, yw_neg, yl_add, yl_sub, yl_mul, cj_and, cj_or, cj_xor, cj_shl, cj_shr, cj_ushr, cj_div, cj_i2c, cj_i2b, cj_dc, ck_and, ck_or, ck_xor, ck_shl, ck_shr, ck_ushr, ck_i2l, ck_l2i, ck_cmp]) rfl ?_
  refine xZ.k_gJ (me := xm95) hP_95 rfl (fun x3 => ?_)
  refine xZ.calls (κ := oJ) (av := [.int (yw x3)]) (rest := [.int (yw v3)]) (st' := fun x4 => [.int (yw x4), .int (yw v3)]) (me := xm95) hP_95 rfl rfl rfl (Nat.le_of_ble_eq_true rfl) (by decide) hP_252 (Nat.le_of_ble_eq_true rfl) (fun _ => rfl) (k_f_Integer_bitCount O f (d + 0) x3 M1) (fun x4 M2 => ?_)
  refine xZ.adv (me := xm95) hP_95 2 (pc' := 91) (lv' := [(5, .int (yw ((jshl 1 (jand x2 31)) - 1))), (4, .int (yw s0)), (0, .ref v0), (3, .int (yw v3))]) (st' := [.ref v0, .int ((yw v3) * (yw x4))]) rfl ?_
  refine xZ.eqs (lv2 := [(5, .int (yw ((jshl 1 (jand x2 31)) - 1))), (4, .int (yw s0)), (0, .ref v0), (3, .int (yw v3))]) (st2 := [.ref v0, .int (yw (v3 * x4))]) rfl (by simp only [yl_lit, yL_lit, yw_add, yw_sub, yw_mul, yw_neg, yl_add, yl_sub, yl_mul, cj_and, cj_or, cj_xor, cj_shl, cj_shr, cj_ushr, cj_div, cj_i2c, cj_i2b, cj_dc, ck_and, ck_or, ck_xor, ck_shl, ck_shr, ck_ushr, ck_i2l, ck_l2i, ck_cmp]) ?_
  refine xZ.k_gJ (me := xm95) hP_95 rfl (fun x5 => ?_)
  refine xZ.adv (me := xm95) hP_95 2 (pc' := 97) (lv' := [(5, .int (yw ((jshl 1 (jand x2 31)) - 1))), (4, .int (yw s0)), (0, .ref v0), (3, .int (yw v3))]) (st' := [.int ((yw x5) &&& (yw s0)), .int (yw (v3 * x4))]) rfl ?_
  refine xZ.eqs (lv2 := [(5, .int (yw ((jshl 1 (jand x2 31)) - 1))), (4, .int (yw s0)), (0, .ref v0), (3, .int (yw v3))]) (st2 := [.int (yw (jand x5 s0)), .int (yw (v3 * x4))]) rfl (by simp only [yl_lit, yL_lit, yw_add, yw_sub, yw_mul, yw_neg, yl_add, yl_sub, yl_mul, cj_and, cj_or, cj_xor, cj_shl, cj_shr, cj_ushr, cj_div, cj_i2c, cj_i2b, cj_dc, ck_and, ck_or, ck_xor, ck_shl, ck_shr, ck_ushr, ck_i2l, ck_l2i, ck_cmp]) ?_
  refine xZ.calls (κ := oJ) (av := [.int (yw (jand x5 s0))]) (rest := [.int (yw (v3 * x4))]) (st' := fun x6 => [.int (yw x6), .int (yw (v3 * x4))]) (me := xm95) hP_95 rfl rfl rfl (Nat.le_of_ble_eq_true rfl) (by decide) hP_252 (Nat.le_of_ble_eq_true rfl) (fun _ => rfl) (k_f_Integer_bitCount O f (d + 0) (jand x5 s0) M2) (fun x6 M3 => ?_)
  refine xZ.adv (me := xm95) hP_95 2 (pc' := 102) (lv' := [(5, .int (yw ((jshl 1 (jand x2 31)) - 1))), (4, .int (yw s0)), (0, .ref v0), (3, .int (yw v3))]) (st' := [.ref v0, .int ((yw (v3 * x4)) + (yw x6))]) rfl ?_
  refine xZ.eqs (lv2 := [(5, .int (yw ((jshl 1 (jand x2 31)) - 1))), (4, .int (yw s0)), (0, .ref v0), (3, .int (yw v3))]) (st2 := [.ref v0, .int (yw ((v3 * x4) + x6))]) rfl (by simp only [yl_lit, yL_lit, yw_add, yw_sub, yw_mul, yw_neg, yl_add, yl_sub, yl_mul, cj_and, cj_or, cj_xor, cj_shl, cj_shr, cj_ushr, cj_div, cj_i2c, cj_i2b, cj_dc, ck_and, ck_or, ck_xor, ck_shl, ck_shr, ck_ushr, ck_i2l, ck_l2i, ck_cmp]) ?_
  refine xZ.k_gJ (me := xm95) hP_95 rfl (fun x7 => ?_)
  refine xZ.adv (me := xm95) hP_95 2 (pc' := 108) (lv' := [(5, .int (yw ((jshl 1 (jand x2 31)) - 1))), (4, .int (yw s0)), (0, .ref v0), (3, .int (yw v3))]) (st' := [.int ((yw x7) &&& (yw ((jshl 1 (jand x2 31)) - 1))), .int (yw ((v3 * x4) + x6))]) rfl ?_
  refine xZ.eqs (lv2 := [(5, .int (yw ((jshl 1 (jand x2 31)) - 1))), (4, .int (yw s0)), (0, .ref v0), (3, .int (yw v3))]) (st2 := [.int (yw (jand x7 ((jshl 1 (jand x2 31)) - 1))), .int (yw ((v3 * x4) + x6))]) rfl (by simp only [yl_lit, yL_lit, yw_add, yw_sub, yw_mul, yw_neg, yl_add, yl_sub, yl_mul, cj_and, cj_or, cj_xor, cj_shl, cj_shr, cj_ushr, cj_div, cj_i2c, cj_i2b, cj_dc, ck_and, ck_or, ck_xor, ck_shl, ck_shr, ck_ushr, ck_i2l, ck_l2i, ck_cmp]) ?_
  refine xZ.calls (κ := oJ) (av := [.int (yw (jand x7 ((jshl 1 (jand x2 31)) - 1)))]) (rest := [.int (yw ((v3 * x4) + x6))]) (st' := fun x8 => [.int (yw x8), .int (yw ((v3 * x4) + x6))]) (me := xm95) hP_95 rfl rfl rfl (Nat.le_of_ble_eq_true rfl) (by decide) hP_252 (Nat.le_of_ble_eq_true rfl) (fun _ => rfl) (k_f_Integer_bitCount O f (d + 0) (jand x7 ((jshl 1 (jand x2 31)) - 1)) M3) (fun x8 M4 => ?_)
  refine xZ.adv (me := xm95) hP_95 1 (pc' := 112) (lv' := [(5, .int (yw ((jshl 1 (jand x2 31)) - 1))), (4, .int (yw s0)), (0, .ref v0), (3, .int (yw v3))]) (st' := [.int ((yw ((v3 * x4) + x6)) - (yw x8))]) rfl ?_
  refine xZ.eqs (lv2 := [(5, .int (yw ((jshl 1 (jand x2 31)) - 1))), (4, .int (yw s0)), (0, .ref v0), (3, .int (yw v3))]) (st2 := [.int (yw (((v3 * x4) + x6) - x8))]) rfl (by simp only [yl_lit, yL_lit, yw_add, yw_sub, yw_mul, yw_neg, yl_add, yl_sub, yl_mul, cj_and, cj_or, cj_xor, cj_shl, cj_shr, cj_ushr, cj_div, cj_i2c, cj_i2b, cj_dc, ck_and, ck_or, ck_xor, ck_shl, ck_shr, ck_ushr, ck_i2l, ck_l2i, ck_cmp]) ?_
  exact xZ.jreti (me := xm95) hP_95 rfl rfl
def f_Rule_countByWeeks (O : Nat → Option va_E) (f : Nat) (v0 : Nat) (v1 : Int) (M : xM) : Option (Int × xM) :=
  (gJ O M v0 9 0).bind fun x1 =>
  if yw v1 < yw x1 then (
    some (0, M)
  ) else
  (gJ O M v0 9 2).bind fun x2 =>
  if yw 1 ≤ yw x2 then (
    xcl (f_Days_weekOf O f v1 M) fun x3 M1 =>
    (gJ O M1 v0 9 0).bind fun x4 =>
    xcl (f_Days_weekOf O f x4 M1) fun x5 M2 =>
    (gJ O M2 v0 9 2).bind fun x6 =>
    (gJ O M2 v0 9 2).bind fun x7 =>
    if yw x7 = yw 0 then none else xlet ((jdiv (((x3 - x5) + x6) - 1) x7)) fun x8 =>
    (gJ O M2 v0 9 2).bind fun x9 =>
    if yw x9 = yw 0 then none else xlet ((x3 - x5) - (jdiv (x3 - x5) x9) * x9) fun x10 =>
    if yw x10 = yw 0 then (
      xcl (f_Days_weekdayOf O f v1 M2) fun x11 M3 =>
      f_Rule_countByWeeks_66 O f v0 x8 ((jshl 2 (jand x11 31)) - 1) M3
    ) else
    f_Rule_countByWeeks_66 O f v0 x8 0 M2
  ) else
  some (0, M)
set_option maxRecDepth 20000 in
theorem k_f_Rule_countByWeeks (O : Nat → Option va_E) (f d : Nat) (v0 : Nat) (v1 : Int) (M : xM) : xZ oJ O (d + 1) 95 0 [(0, .ref v0), (1, .int (yw v1))] [] M (f_Rule_countByWeeks O f v0 v1 M) := by
  unfold f_Rule_countByWeeks
  refine xZ.adv (me := xm95) hP_95 2 (pc' := 2) (lv' := [(0, .ref v0), (1, .int (yw v1))]) (st' := [.ref v0, .int (yw v1)]) rfl ?_
  refine xZ.k_gJ (me := xm95) hP_95 rfl (fun x1 => ?_)
  refine xZ.jc_lt (me := xm95) hP_95 rfl (fun h1 => ?_) (fun h1 => ?_)
  · skip
    refine xZ.adv (me := xm95) hP_95 1 (pc' := 17) (lv' := [(0, .ref v0), (1, .int (yw v1))]) (st' := [.int (0 : Int32)]) rfl ?_
    refine xZ.eqs (lv2 := [(0, .ref v0), (1, .int (yw v1))]) (st2 := [.int (yw 0)]) rfl (by simp only [yl_lit, yL_lit, yw_add, yw_sub, yw_mul, yw_neg, yl_add, yl_sub, yl_mul, cj_and, cj_or, cj_xor, cj_shl, cj_shr, cj_ushr, cj_div, cj_i2c, cj_i2b, cj_dc, ck_and, ck_or, ck_xor, ck_shl, ck_shr, ck_ushr, ck_i2l, ck_l2i, ck_cmp]) ?_
    exact xZ.jreti (me := xm95) hP_95 rfl rfl
  · skip
    refine xZ.adv (me := xm95) hP_95 1 (pc' := 9) (lv' := [(0, .ref v0), (1, .int (yw v1))]) (st' := [.ref v0]) rfl ?_
    refine xZ.k_gJ (me := xm95) hP_95 rfl (fun x2 => ?_)
    refine xZ.adv (me := xm95) hP_95 1 (pc' := 13) (lv' := [(0, .ref v0), (1, .int (yw v1))]) (st' := [.int (1 : Int32), .int (yw x2)]) rfl ?_
    refine xZ.eqs (lv2 := [(0, .ref v0), (1, .int (yw v1))]) (st2 := [.int (yw 1), .int (yw x2)]) rfl (by simp only [yl_lit, yL_lit, yw_add, yw_sub, yw_mul, yw_neg, yl_add, yl_sub, yl_mul, cj_and, cj_or, cj_xor, cj_shl, cj_shr, cj_ushr, cj_div, cj_i2c, cj_i2b, cj_dc, ck_and, ck_or, ck_xor, ck_shl, ck_shr, ck_ushr, ck_i2l, ck_l2i, ck_cmp]) ?_
    refine xZ.jc_ge (me := xm95) hP_95 rfl (fun h2 => ?_) (fun h2 => ?_)
    · skip
      refine xZ.adv (me := xm95) hP_95 1 (pc' := 19) (lv' := [(0, .ref v0), (1, .int (yw v1))]) (st' := [.int (yw v1)]) rfl ?_
      refine xZ.calls (κ := oJ) (av := [.int (yw v1)]) (rest := []) (st' := fun x3 => [.int (yw x3)]) (me := xm95) hP_95 rfl rfl rfl (Nat.le_of_ble_eq_true rfl) (by decide) hP_47 (Nat.le_of_ble_eq_true rfl) (fun _ => rfl) (k_f_Days_weekOf O f (d + 0) v1 M) (fun x3 M1 => ?_)
      refine xZ.adv (me := xm95) hP_95 1 (pc' := 23) (lv' := [(0, .ref v0), (1, .int (yw v1))]) (st' := [.ref v0, .int (yw x3)]) rfl ?_
      refine xZ.k_gJ (me := xm95) hP_95 rfl (fun x4 => ?_)
      refine xZ.calls (κ := oJ) (av := [.int (yw x4)]) (rest := [.int (yw x3)]) (st' := fun x5 => [.int (yw x5), .int (yw x3)]) (me := xm95) hP_95 rfl rfl rfl (Nat.le_of_ble_eq_true rfl) (by decide) hP_47 (Nat.le_of_ble_eq_true rfl) (fun _ => rfl) (k_f_Days_weekOf O f (d + 0) x4 M1) (fun x5 M2 => ?_)
      refine xZ.adv (me := xm95) hP_95 4 (pc' := 33) (lv' := [(2, .int ((yw x3) - (yw x5))), (0, .ref v0), (1, .int (yw v1))]) (st' := [.ref v0, .int ((yw x3) - (yw x5))]) rfl ?_
      refine xZ.eqs (lv2 := [(2, .int (yw (x3 - x5))), (0, .ref v0), (1, .int (yw v1))]) (st2 := [.ref v0, .int (yw (x3 - x5))]) (by simp only [yl_lit, yL_lit, yw_add, yw_sub, yw_mul, yw_neg, yl_add, yl_sub, yl_mul, cj_and, cj_or, cj_xor, cj_shl, cj_shr, cj_ushr, cj_div, cj_i2c, cj_i2b, cj_dc, ck_and, ck_or, ck_xor, ck_shl, ck_shr, ck_ushr, ck_i2l, ck_l2i, ck_cmp]) (by simp only [yl_lit, yL_lit, yw_add, yw_sub, yw_mul, yw_neg, yl_add, yl_sub, yl_mul, cj_and, cj_or, cj_xor, cj_shl, cj_shr, cj_ushr, cj_div, cj_i2c, cj_i2b, cj_dc, ck_and, ck_or, ck_xor, ck_shl, ck_shr, ck_ushr, ck_i2l, ck_l2i, ck_cmp]) ?_
      refine xZ.k_gJ (me := xm95) hP_95 rfl (fun x6 => ?_)
      refine xZ.adv (me := xm95) hP_95 4 (pc' := 40) (lv' := [(2, .int (yw (x3 - x5))), (0, .ref v0), (1, .int (yw v1))]) (st' := [.ref v0, .int (((yw (x3 - x5)) + (yw x6)) - (1 : Int32))]) rfl ?_
      refine xZ.eqs (lv2 := [(2, .int (yw (x3 - x5))), (0, .ref v0), (1, .int (yw v1))]) (st2 := [.ref v0, .int (yw (((x3 - x5) + x6) - 1))]) rfl (by simp only [yl_lit, yL_lit, yw_add, yw_sub, yw_mul, yw_neg, yl_add, yl_sub, yl_mul, cj_and, cj_or, cj_xor, cj_shl, cj_shr, cj_ushr, cj_div, cj_i2c, cj_i2b, cj_dc, ck_and, ck_or, ck_xor, ck_shl, ck_shr, ck_ushr, ck_i2l, ck_l2i, ck_cmp]) ?_
      refine xZ.k_gJ (me := xm95) hP_95 rfl (fun x7 => ?_)
      refine xZ.k_jdiv (me := xm95) hP_95 rfl (fun x8 => ?_)
      refine xZ.adv (me := xm95) hP_95 3 (pc' := 47) (lv' := [(3, .int (yw x8)), (2, .int (yw (x3 - x5))), (0, .ref v0), (1, .int (yw v1))]) (st' := [.ref v0, .int (yw (x3 - x5))]) rfl ?_
      refine xZ.k_gJ (me := xm95) hP_95 rfl (fun x9 => ?_)
      refine xZ.k_jrem (me := xm95) hP_95 rfl (fun x10 => ?_)
      refine xZ.jf_ne (me := xm95) hP_95 rfl (fun h3 => ?_) (fun h3 => ?_)
      · skip
        refine xZ.adv (me := xm95) hP_95 2 (pc' := 56) (lv' := [(3, .int (yw x8)), (2, .int (yw (x3 - x5))), (0, .ref v0), (1, .int (yw v1))]) (st' := [.int (yw v1), .int (2 : Int32)]) rfl ?_
        refine xZ.eqs (lv2 := [(3, .int (yw x8)), (2, .int (yw (x3 - x5))), (0, .ref v0), (1, .int (yw v1))]) (st2 := [.int (yw v1), .int (yw 2)]) rfl (by simp only [yl_lit, yL_lit, yw_add, yw_sub, yw_mul, yw_neg, yl_add, yl_sub, yl_mul, cj_and, cj_or, cj_xor, cj_shl, cj_shr, cj_ushr, cj_div, cj_i2c, cj_i2b, cj_dc, ck_and, ck_or, ck_xor, ck_shl, ck_shr, ck_ushr, ck_i2l, ck_l2i, ck_cmp]) ?_
        refine xZ.calls (κ := oJ) (av := [.int (yw v1)]) (rest := [.int (yw 2)]) (st' := fun x11 => [.int (yw x11), .int (yw 2)]) (me := xm95) hP_95 rfl rfl rfl (Nat.le_of_ble_eq_true rfl) (by decide) hP_49 (Nat.le_of_ble_eq_true rfl) (fun _ => rfl) (k_f_Days_weekdayOf O f (d + 0) v1 M2) (fun x11 M3 => ?_)
        refine xZ.adv (me := xm95) hP_95 4 (pc' := 66) (lv' := [(3, .int (yw x8)), (2, .int (yw (x3 - x5))), (0, .ref v0), (1, .int (yw v1))]) (st' := [.int (((yw 2) <<< ((yw x11) &&& 31)) - (1 : Int32))]) rfl ?_
        refine xZ.eqs (lv2 := [(3, .int (yw x8)), (2, .int (yw (x3 - x5))), (0, .ref v0), (1, .int (yw v1))]) (st2 := [.int (yw ((jshl 2 (jand x11 31)) - 1))]) rfl (by simp only [yl_lit, yL_lit, yw_add, yw_sub, yw_mul, yw_neg, yl_add, yl_sub, yl_mul, cj_and, cj_or, cj_xor, cj_shl, cj_shr, cj_ushr, cj_div, cj_i2c, cj_i2b, cj_dc, ck_and, ck_or, ck_xor, ck_shl, ck_shr, ck_ushr, ck_i2l, ck_l2i, ck_cmp]) ?_
        exact xZ.sub (xsc (.tail _ (.tail _ (.head _))) (xsc (.head _) xsn)) (show ([3, 2, 0, 1] : List Nat).Nodup from by decide) (k_f_Rule_countByWeeks_66 O f d v0 x8 ((jshl 2 (jand x11 31)) - 1) M3)
      · skip
        refine xZ.adv (me := xm95) hP_95 1 (pc' := 66) (lv' := [(3, .int (yw x8)), (2, .int (yw (x3 - x5))), (0, .ref v0), (1, .int (yw v1))]) (st' := [.int (0 : Int32)]) rfl ?_
        refine xZ.eqs (lv2 := [(3, .int (yw x8)), (2, .int (yw (x3 - x5))), (0, .ref v0), (1, .int (yw v1))]) (st2 := [.int (yw 0)]) rfl (by simp only [yl_lit, yL_lit, yw_add, yw_sub, yw_mul, yw_neg, yl_add, yl_sub, yl_mul, cj_and, cj_or, cj_xor, cj_shl, cj_shr, cj_ushr, cj_div, cj_i2c, cj_i2b, cj_dc, ck_and, ck_or, ck_xor, ck_shl, ck_shr, ck_ushr, ck_i2l, ck_l2i, ck_cmp]) ?_
        exact xZ.sub (xsc (.tail _ (.tail _ (.head _))) (xsc (.head _) xsn)) (show ([3, 2, 0, 1] : List Nat).Nodup from by decide) (k_f_Rule_countByWeeks_66 O f d v0 x8 0 M2)
    · skip
      refine xZ.adv (me := xm95) hP_95 1 (pc' := 17) (lv' := [(0, .ref v0), (1, .int (yw v1))]) (st' := [.int (0 : Int32)]) rfl ?_
      refine xZ.eqs (lv2 := [(0, .ref v0), (1, .int (yw v1))]) (st2 := [.int (yw 0)]) rfl (by simp only [yl_lit, yL_lit, yw_add, yw_sub, yw_mul, yw_neg, yl_add, yl_sub, yl_mul, cj_and, cj_or, cj_xor, cj_shl, cj_shr, cj_ushr, cj_div, cj_i2c, cj_i2b, cj_dc, ck_and, ck_or, ck_xor, ck_shl, ck_shr, ck_ushr, ck_i2l, ck_l2i, ck_cmp]) ?_
      exact xZ.jreti (me := xm95) hP_95 rfl rfl
