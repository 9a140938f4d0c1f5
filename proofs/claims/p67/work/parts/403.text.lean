/-! ===== texts ===== -/
def f_Math_min (O : Nat → Option va_E) (f : Nat) (v0 : Int) (v1 : Int) (M : xM) : Option (Int × xM) :=
  if yw v1 < yw v0 then (
    some (v1, M)
  ) else
  some (v0, M)
set_option maxRecDepth 20000 in
theorem k_f_Math_min (O : Nat → Option va_E) (f d : Nat) (v0 : Int) (v1 : Int) (M : xM) : xZ oJ O (d + 0) 248 0 [(0, .int (yw v0)), (1, .int (yw v1))] [] M (f_Math_min O f v0 v1 M) := by
  unfold f_Math_min
  refine xZ.adv (me := xm248) hP_248 2 (pc' := 2) (lv' := [(0, .int (yw v0)), (1, .int (yw v1))]) (st' := [.int (yw v1), .int (yw v0)]) rfl ?_
  refine xZ.jc_gt (me := xm248) hP_248 rfl (fun h1 => ?_) (fun h1 => ?_)
  · skip
    refine xZ.adv (me := xm248) hP_248 1 (pc' := 10) (lv' := [(0, .int (yw v0)), (1, .int (yw v1))]) (st' := [.int (yw v1)]) rfl ?_
    exact xZ.jreti (me := xm248) hP_248 rfl rfl
  · skip
    refine xZ.adv (me := xm248) hP_248 2 (pc' := 10) (lv' := [(0, .int (yw v0)), (1, .int (yw v1))]) (st' := [.int (yw v0)]) rfl ?_
    exact xZ.jreti (me := xm248) hP_248 rfl rfl
def f_Arrays_copyOf (O : Nat → Option va_E) (f : Nat) (v0 : Nat) (v1 : Int) (M : xM) : Option (Nat × xM) :=
  (aJN O M v0).bind fun x1 =>
  if yw v1 = yw x1 then (
    xcl (clX M v0) fun x2 M1 =>
    (ckB M1 x2).bind fun _ =>
    some (x2, M1)
  ) else
  xcl (nAJ M 3 v1) fun x3 M2 =>
  (aJN O M2 v0).bind fun x4 =>
  xcl (f_Math_min O f x4 v1 M2) fun x5 M3 =>
  (cpJ O M3 v0 0 x3 0 x5).bind fun M4 =>
  some (x3, M4)
set_option maxRecDepth 20000 in
theorem k_f_Arrays_copyOf (O : Nat → Option va_E) (f d : Nat) (v0 : Nat) (v1 : Int) (M : xM) : xZ oR O (d + 1) 263 0 [(0, .ref v0), (1, .int (yw v1))] [] M (f_Arrays_copyOf O f v0 v1 M) := by
  unfold f_Arrays_copyOf
  refine xZ.adv (me := xm263) hP_263 2 (pc' := 2) (lv' := [(0, .ref v0), (1, .int (yw v1))]) (st' := [.ref v0, .int (yw v1)]) rfl ?_
  refine xZ.k_aJN (me := xm263) hP_263 rfl (fun x1 => ?_)
  refine xZ.jc_ne (me := xm263) hP_263 rfl (fun h1 => ?_) (fun h1 => ?_)
  · skip
    refine xZ.adv (me := xm263) hP_263 1 (pc' := 7) (lv' := [(0, .ref v0), (1, .int (yw v1))]) (st' := [.ref v0]) rfl ?_
    refine xZ.k_clX (me := xm263) hP_263 rfl (Nat.le_of_ble_eq_true rfl) (fun x2 M1 => ?_)
    refine xZ.k_ckB (me := xm263) hP_263 rfl (fun _ => ?_)
    exact xZ.retr (me := xm263) hP_263 rfl rfl rfl
  · skip
    refine xZ.adv (me := xm263) hP_263 1 (pc' := 15) (lv' := [(0, .ref v0), (1, .int (yw v1))]) (st' := [.int (yw v1)]) rfl ?_
    refine xZ.k_nAJ (me := xm263) hP_263 rfl rfl (by decide) (fun x3 M2 => ?_)
    refine xZ.adv (me := xm263) hP_263 6 (pc' := 23) (lv' := [(2, .ref x3), (0, .ref v0), (1, .int (yw v1))]) (st' := [.ref v0, .int (0 : Int32), .ref x3, .int (0 : Int32), .ref v0]) rfl ?_
    refine xZ.eqs (lv2 := [(2, .ref x3), (0, .ref v0), (1, .int (yw v1))]) (st2 := [.ref v0, .int (yw 0), .ref x3, .int (yw 0), .ref v0]) rfl (by simp only [yl_lit, yL_lit, yw_add, yw_sub, yw_mul, yw_neg, yl_add, yl_sub, yl_mul, cj_and, cj_or, cj_xor, cj_shl, cj_shr, cj_ushr, cj_div, cj_i2c, cj_i2b, cj_dc, ck_and, ck_or, ck_xor, ck_shl, ck_shr, ck_ushr, ck_i2l, ck_l2i, ck_cmp]) ?_
    refine xZ.k_aJN (me := xm263) hP_263 rfl (fun x4 => ?_)
    refine xZ.adv (me := xm263) hP_263 1 (pc' := 25) (lv' := [(2, .ref x3), (0, .ref v0), (1, .int (yw v1))]) (st' := [.int (yw v1), .int (yw x4), .int (yw 0), .ref x3, .int (yw 0), .ref v0]) rfl ?_
    refine xZ.calls (κ := oJ) (av := [.int (yw x4), .int (yw v1)]) (rest := [.int (yw 0), .ref x3, .int (yw 0), .ref v0]) (st' := fun x5 => [.int (yw x5), .int (yw 0), .ref x3, .int (yw 0), .ref v0]) (me := xm263) hP_263 rfl rfl rfl (Nat.le_of_ble_eq_true rfl) (by decide) hP_248 (Nat.le_of_ble_eq_true rfl) (fun _ => rfl) (k_f_Math_min O f (d + 0) x4 v1 M2) (fun x5 M3 => ?_)
    refine xZ.k_cpJ (me := xm263) hP_263 rfl (Nat.le_of_ble_eq_true rfl) (fun M4 => ?_)
    refine xZ.adv (me := xm263) hP_263 1 (pc' := 32) (lv' := [(2, .ref x3), (0, .ref v0), (1, .int (yw v1))]) (st' := [.ref x3]) rfl ?_
    exact xZ.retr (me := xm263) hP_263 rfl rfl rfl
def f_AbstractStringBuilder_ensureCapacityInternal (O : Nat → Option va_E) (f : Nat) (v0 : Nat) (v1 : Int) (M : xM) : Option (Unit × xM) :=
  (gR O M v0 1 0).bind fun x1 =>
  (aJN O M x1).bind fun x2 =>
  (gJ O M v0 1 1).bind fun x3 =>
  if yw (v1 - (jshr x2 (jand x3 31))) ≤ yw 0 then (
    some ((), M)
  ) else
  (gR O M v0 1 0).bind fun x4 =>
  (isO O M v0 1).bind fun _ =>
  xcl (f_AbstractStringBuilder_newCapacity O f v0 v1 M) fun x5 M1 =>
  (gJ O M1 v0 1 1).bind fun x6 =>
  xcl (f_Arrays_copyOf O f x4 (jshl x5 (jand x6 31)) M1) fun x7 M2 =>
  (pR M2 v0 1 0 (some x7)).bind fun M3 =>
  some ((), M3)
set_option maxRecDepth 20000 in
theorem k_f_AbstractStringBuilder_ensureCapacityInternal (O : Nat → Option va_E) (f d : Nat) (v0 : Nat) (v1 : Int) (M : xM) : xZ oU O (d + 3) 259 0 [(0, .ref v0), (1, .int (yw v1))] [] M (f_AbstractStringBuilder_ensureCapacityInternal O f v0 v1 M) := by
  unfold f_AbstractStringBuilder_ensureCapacityInternal
  refine xZ.adv (me := xm259) hP_259 1 (pc' := 1) (lv' := [(0, .ref v0), (1, .int (yw v1))]) (st' := [.ref v0]) rfl ?_
  refine xZ.k_gR (me := xm259) hP_259 rfl (fun x1 => ?_)
  refine xZ.k_aJN (me := xm259) hP_259 rfl (fun x2 => ?_)
  refine xZ.adv (me := xm259) hP_259 1 (pc' := 6) (lv' := [(0, .ref v0), (1, .int (yw v1))]) (st' := [.ref v0, .int (yw x2)]) rfl ?_
  refine xZ.k_gJ (me := xm259) hP_259 rfl (fun x3 => ?_)
  refine xZ.adv (me := xm259) hP_259 5 (pc' := 14) (lv' := [(2, .int ((yw x2) >>> ((yw x3) &&& 31))), (0, .ref v0), (1, .int (yw v1))]) (st' := [.int ((yw v1) - ((yw x2) >>> ((yw x3) &&& 31)))]) rfl ?_
  refine xZ.eqs (lv2 := [(2, .int (yw (jshr x2 (jand x3 31)))), (0, .ref v0), (1, .int (yw v1))]) (st2 := [.int (yw (v1 - (jshr x2 (jand x3 31))))]) (by simp only [yl_lit, yL_lit, yw_add, yw_sub, yw_mul, yw_neg, yl_add, yl_sub, yl_mul, cj_and, cj_or, cj_xor, cj_shl, cj_shr, cj_ushr, cj_div, cj_i2c, cj_i2b, cj_dc, ck_and, ck_or, ck_xor, ck_shl, ck_shr, ck_ushr, ck_i2l, ck_l2i, ck_cmp]) (by simp only [yl_lit, yL_lit, yw_add, yw_sub, yw_mul, yw_neg, yl_add, yl_sub, yl_mul, cj_and, cj_or, cj_xor, cj_shl, cj_shr, cj_ushr, cj_div, cj_i2c, cj_i2b, cj_dc, ck_and, ck_or, ck_xor, ck_shl, ck_shr, ck_ushr, ck_i2l, ck_l2i, ck_cmp]) ?_
  refine xZ.jf_le (me := xm259) hP_259 rfl (fun h1 => ?_) (fun h1 => ?_)
  · skip
    exact xZ.retu (me := xm259) hP_259 rfl rfl
  · skip
    refine xZ.adv (me := xm259) hP_259 2 (pc' := 19) (lv' := [(2, .int (yw (jshr x2 (jand x3 31)))), (0, .ref v0), (1, .int (yw v1))]) (st' := [.ref v0, .ref v0]) rfl ?_
    refine xZ.k_gR (me := xm259) hP_259 rfl (fun x4 => ?_)
    refine xZ.adv (me := xm259) hP_259 2 (pc' := 24) (lv' := [(2, .int (yw (jshr x2 (jand x3 31)))), (0, .ref v0), (1, .int (yw v1))]) (st' := [.int (yw v1), .ref v0, .ref x4, .ref v0]) rfl ?_
    refine xZ.callv (κ := oJ) (av := [.int (yw v1)]) (rest := [.ref x4, .ref v0]) (st' := fun x5 => [.int (yw x5), .ref x4, .ref v0]) (k0 := v0) (me := xm259) hP_259 rfl (Or.inr (Or.inl rfl)) ⟨rfl, by decide⟩ rfl rfl (Nat.le_of_ble_eq_true rfl) (by decide) hP_260 (Nat.le_of_ble_eq_true rfl) (fun _ => rfl) (k_f_AbstractStringBuilder_newCapacity O f (d + 0) v0 v1 M) (fun x5 M1 => ?_)
    refine xZ.adv (me := xm259) hP_259 1 (pc' := 28) (lv' := [(2, .int (yw (jshr x2 (jand x3 31)))), (0, .ref v0), (1, .int (yw v1))]) (st' := [.ref v0, .int (yw x5), .ref x4, .ref v0]) rfl ?_
    refine xZ.k_gJ (me := xm259) hP_259 rfl (fun x6 => ?_)
    refine xZ.adv (me := xm259) hP_259 1 (pc' := 32) (lv' := [(2, .int (yw (jshr x2 (jand x3 31)))), (0, .ref v0), (1, .int (yw v1))]) (st' := [.int ((yw x5) <<< ((yw x6) &&& 31)), .ref x4, .ref v0]) rfl ?_
    refine xZ.eqs (lv2 := [(2, .int (yw (jshr x2 (jand x3 31)))), (0, .ref v0), (1, .int (yw v1))]) (st2 := [.int (yw (jshl x5 (jand x6 31))), .ref x4, .ref v0]) rfl (by simp only [yl_lit, yL_lit, yw_add, yw_sub, yw_mul, yw_neg, yl_add, yl_sub, yl_mul, cj_and, cj_or, cj_xor, cj_shl, cj_shr, cj_ushr, cj_div, cj_i2c, cj_i2b, cj_dc, ck_and, ck_or, ck_xor, ck_shl, ck_shr, ck_ushr, ck_i2l, ck_l2i, ck_cmp]) ?_
    refine xZ.calls (κ := oR) (av := [.ref x4, .int (yw (jshl x5 (jand x6 31)))]) (rest := [.ref v0]) (st' := fun x7 => [.ref x7, .ref v0]) (me := xm259) hP_259 rfl rfl rfl (Nat.le_of_ble_eq_true rfl) (by decide) hP_263 (Nat.le_of_ble_eq_true rfl) (fun _ => rfl) (k_f_Arrays_copyOf O f (d + 1) x4 (jshl x5 (jand x6 31)) M1) (fun x7 M2 => ?_)
    refine xZ.k_pR (x := (some x7)) (me := xm259) hP_259 rfl (fun M3 => ?_)
    exact xZ.retu (me := xm259) hP_259 rfl rfl
def f_AbstractStringBuilder_isLatin1 (O : Nat → Option va_E) (f : Nat) (v0 : Nat) (M : xM) : Option (Int × xM) :=
  if yw 1 = yw 0 then (
    some (0, M)
  ) else
  (gJ O M v0 1 1).bind fun x1 =>
  if yw x1 = yw 0 then (
    some (1, M)
  ) else
  some (0, M)
set_option maxRecDepth 20000 in
theorem k_f_AbstractStringBuilder_isLatin1 (O : Nat → Option va_E) (f d : Nat) (v0 : Nat) (M : xM) : xZ oJ O (d + 0) 264 0 [(0, .ref v0)] [] M (f_AbstractStringBuilder_isLatin1 O f v0 M) := by
  unfold f_AbstractStringBuilder_isLatin1
  refine xZ.adv (me := xm264) hP_264 1 (pc' := 3) (lv' := [(0, .ref v0)]) (st' := [.int (1 : Int32)]) rfl ?_
  refine xZ.eqs (lv2 := [(0, .ref v0)]) (st2 := [.int (yw 1)]) rfl (by simp only [yl_lit, yL_lit, yw_add, yw_sub, yw_mul, yw_neg, yl_add, yl_sub, yl_mul, cj_and, cj_or, cj_xor, cj_shl, cj_shr, cj_ushr, cj_div, cj_i2c, cj_i2b, cj_dc, ck_and, ck_or, ck_xor, ck_shl, ck_shr, ck_ushr, ck_i2l, ck_l2i, ck_cmp]) ?_
  refine xZ.jf_eq (me := xm264) hP_264 rfl (fun h1 => ?_) (fun h1 => ?_)
  · skip
    refine xZ.adv (me := xm264) hP_264 1 (pc' := 18) (lv' := [(0, .ref v0)]) (st' := [.int (0 : Int32)]) rfl ?_
    refine xZ.eqs (lv2 := [(0, .ref v0)]) (st2 := [.int (yw 0)]) rfl (by simp only [yl_lit, yL_lit, yw_add, yw_sub, yw_mul, yw_neg, yl_add, yl_sub, yl_mul, cj_and, cj_or, cj_xor, cj_shl, cj_shr, cj_ushr, cj_div, cj_i2c, cj_i2b, cj_dc, ck_and, ck_or, ck_xor, ck_shl, ck_shr, ck_ushr, ck_i2l, ck_l2i, ck_cmp]) ?_
    exact xZ.jrete (me := xm264) hP_264 rfl rfl rfl
  · skip
    refine xZ.adv (me := xm264) hP_264 1 (pc' := 7) (lv' := [(0, .ref v0)]) (st' := [.ref v0]) rfl ?_
    refine xZ.k_gJ (me := xm264) hP_264 rfl (fun x1 => ?_)
    refine xZ.jf_ne (me := xm264) hP_264 rfl (fun h2 => ?_) (fun h2 => ?_)
    · skip
      refine xZ.adv (me := xm264) hP_264 2 (pc' := 18) (lv' := [(0, .ref v0)]) (st' := [.int (1 : Int32)]) rfl ?_
      refine xZ.eqs (lv2 := [(0, .ref v0)]) (st2 := [.int (yw 1)]) rfl (by simp only [yl_lit, yL_lit, yw_add, yw_sub, yw_mul, yw_neg, yl_add, yl_sub, yl_mul, cj_and, cj_or, cj_xor, cj_shl, cj_shr, cj_ushr, cj_div, cj_i2c, cj_i2b, cj_dc, ck_and, ck_or, ck_xor, ck_shl, ck_shr, ck_ushr, ck_i2l, ck_l2i, ck_cmp]) ?_
      exact xZ.jrete (me := xm264) hP_264 rfl rfl rfl
    · skip
      refine xZ.adv (me := xm264) hP_264 1 (pc' := 18) (lv' := [(0, .ref v0)]) (st' := [.int (0 : Int32)]) rfl ?_
      refine xZ.eqs (lv2 := [(0, .ref v0)]) (st2 := [.int (yw 0)]) rfl (by simp only [yl_lit, yL_lit, yw_add, yw_sub, yw_mul, yw_neg, yl_add, yl_sub, yl_mul, cj_and, cj_or, cj_xor, cj_shl, cj_shr, cj_ushr, cj_div, cj_i2c, cj_i2b, cj_dc, ck_and, ck_or, ck_xor, ck_shl, ck_shr, ck_ushr, ck_i2l, ck_l2i, ck_cmp]) ?_
      exact xZ.jrete (me := xm264) hP_264 rfl rfl rfl
def f_AbstractStringBuilder_appendNull (O : Nat → Option va_E) (f : Nat) (v0 : Nat) (M : xM) : Option (Nat × xM) :=
  (gJ O M v0 1 3).bind fun x1 =>
  (isO O M v0 1).bind fun _ =>
  xcl (f_AbstractStringBuilder_ensureCapacityInternal O f v0 (x1 + 4) M) fun _ M1 =>
  (gJ O M1 v0 1 3).bind fun x3 =>
  (gR O M1 v0 1 0).bind fun x4 =>
  (isO O M1 v0 1).bind fun _ =>
  xcl (f_AbstractStringBuilder_isLatin1 O f v0 M1) fun x5 M2 =>
  if yw x5 = yw 0 then (
    none
  ) else
  (wJB M2 x4 x3 110).bind fun M3 =>
  (wJB M3 x4 (x3 + 1) 117).bind fun M4 =>
  (wJB M4 x4 ((x3 + 1) + 1) 108).bind fun M5 =>
  (wJB M5 x4 (((x3 + 1) + 1) + 1) 108).bind fun M6 =>
  (pJ M6 v0 1 3 ((((x3 + 1) + 1) + 1) + 1)).bind fun M7 =>
  some (v0, M7)
set_option maxRecDepth 20000 in
theorem k_f_AbstractStringBuilder_appendNull (O : Nat → Option va_E) (f d : Nat) (v0 : Nat) (M : xM) : xZ oR O (d + 4) 258 0 [(0, .ref v0)] [] M (f_AbstractStringBuilder_appendNull O f v0 M) := by
  unfold f_AbstractStringBuilder_appendNull
  refine xZ.adv (me := xm258) hP_258 2 (pc' := 2) (lv' := [(0, .ref v0)]) (st' := [.ref v0, .ref v0]) rfl ?_
  refine xZ.k_gJ (me := xm258) hP_258 rfl (fun x1 => ?_)
  refine xZ.adv (me := xm258) hP_258 2 (pc' := 7) (lv' := [(0, .ref v0)]) (st' := [.int ((yw x1) + (4 : Int32)), .ref v0]) rfl ?_
  refine xZ.eqs (lv2 := [(0, .ref v0)]) (st2 := [.int (yw (x1 + 4)), .ref v0]) rfl (by simp only [yl_lit, yL_lit, yw_add, yw_sub, yw_mul, yw_neg, yl_add, yl_sub, yl_mul, cj_and, cj_or, cj_xor, cj_shl, cj_shr, cj_ushr, cj_div, cj_i2c, cj_i2b, cj_dc, ck_and, ck_or, ck_xor, ck_shl, ck_shr, ck_ushr, ck_i2l, ck_l2i, ck_cmp]) ?_
  refine xZ.callv (κ := oU) (av := [.int (yw (x1 + 4))]) (rest := []) (st' := fun _ => []) (k0 := v0) (me := xm258) hP_258 rfl (Or.inr (Or.inl rfl)) ⟨rfl, by decide⟩ rfl rfl (Nat.le_of_ble_eq_true rfl) (by decide) hP_259 (Nat.le_of_ble_eq_true rfl) (fun _ => rfl) (k_f_AbstractStringBuilder_ensureCapacityInternal O f (d + 0) v0 (x1 + 4) M) (fun _ M1 => ?_)
  refine xZ.adv (me := xm258) hP_258 1 (pc' := 11) (lv' := [(0, .ref v0)]) (st' := [.ref v0]) rfl ?_
  refine xZ.k_gJ (me := xm258) hP_258 rfl (fun x3 => ?_)
  refine xZ.adv (me := xm258) hP_258 2 (pc' := 16) (lv' := [(1, .int (yw x3)), (0, .ref v0)]) (st' := [.ref v0]) rfl ?_
  refine xZ.k_gR (me := xm258) hP_258 rfl (fun x4 => ?_)
  refine xZ.adv (me := xm258) hP_258 2 (pc' := 21) (lv' := [(2, .ref x4), (1, .int (yw x3)), (0, .ref v0)]) (st' := [.ref v0]) rfl ?_
  refine xZ.callv (κ := oJ) (av := []) (rest := []) (st' := fun x5 => [.int (yw x5)]) (k0 := v0) (me := xm258) hP_258 rfl (Or.inr (Or.inl rfl)) ⟨rfl, by decide⟩ rfl rfl (Nat.le_of_ble_eq_true rfl) (by decide) hP_264 (Nat.le_of_ble_eq_true rfl) (fun _ => rfl) (k_f_AbstractStringBuilder_isLatin1 O f (d + 3) v0 M1) (fun x5 M2 => ?_)
  refine xZ.jf_eq (me := xm258) hP_258 rfl (fun h1 => ?_) (fun h1 => ?_)
  · skip
    refine xZ.adv (me := xm258) hP_258 6 (pc' := 72) (lv' := [(2, .ref x4), (1, .int (yw x3)), (0, .ref v0)]) (st' := [.int (108 : Int32), .int (108 : Int32), .int (117 : Int32), .int (110 : Int32), .int (yw x3), .ref x4]) rfl ?_
    refine xZ.eqs (lv2 := [(2, .ref x4), (1, .int (yw x3)), (0, .ref v0)]) (st2 := [.int (yw 108), .int (yw 108), .int (yw 117), .int (yw 110), .int (yw x3), .ref x4]) rfl (by simp only [yl_lit, yL_lit, yw_add, yw_sub, yw_mul, yw_neg, yl_add, yl_sub, yl_mul, cj_and, cj_or, cj_xor, cj_shl, cj_shr, cj_ushr, cj_div, cj_i2c, cj_i2b, cj_dc, ck_and, ck_or, ck_xor, ck_shl, ck_shr, ck_ushr, ck_i2l, ck_l2i, ck_cmp]) ?_
    exact xZ.no
  · skip
    refine xZ.adv (me := xm258) hP_258 4 (pc' := 34) (lv' := [(1, .int ((yw x3) + (1 : Int32))), (2, .ref x4), (0, .ref v0)]) (st' := [.int (110 : Int32), .int (yw x3), .ref x4]) rfl ?_
    refine xZ.eqs (lv2 := [(1, .int (yw (x3 + 1))), (2, .ref x4), (0, .ref v0)]) (st2 := [.int (yw 110), .int (yw x3), .ref x4]) (by simp only [yl_lit, yL_lit, yw_add, yw_sub, yw_mul, yw_neg, yl_add, yl_sub, yl_mul, cj_and, cj_or, cj_xor, cj_shl, cj_shr, cj_ushr, cj_div, cj_i2c, cj_i2b, cj_dc, ck_and, ck_or, ck_xor, ck_shl, ck_shr, ck_ushr, ck_i2l, ck_l2i, ck_cmp]) (by simp only [yl_lit, yL_lit, yw_add, yw_sub, yw_mul, yw_neg, yl_add, yl_sub, yl_mul, cj_and, cj_or, cj_xor, cj_shl, cj_shr, cj_ushr, cj_div, cj_i2c, cj_i2b, cj_dc, ck_and, ck_or, ck_xor, ck_shl, ck_shr, ck_ushr, ck_i2l, ck_l2i, ck_cmp]) ?_
    refine xZ.k_wJB (me := xm258) hP_258 rfl (fun M3 => ?_)
    refine xZ.adv (me := xm258) hP_258 4 (pc' := 42) (lv' := [(1, .int ((yw (x3 + 1)) + (1 : Int32))), (2, .ref x4), (0, .ref v0)]) (st' := [.int (117 : Int32), .int (yw (x3 + 1)), .ref x4]) rfl ?_
    refine xZ.eqs (lv2 := [(1, .int (yw ((x3 + 1) + 1))), (2, .ref x4), (0, .ref v0)]) (st2 := [.int (yw 117), .int (yw (x3 + 1)), .ref x4]) (by simp only [yl_lit, yL_lit, yw_add, yw_sub, yw_mul, yw_neg, yl_add, yl_sub, yl_mul, cj_and, cj_or, cj_xor, cj_shl, cj_shr, cj_ushr, cj_div, cj_i2c, cj_i2b, cj_dc, ck_and, ck_or, ck_xor, ck_shl, ck_shr, ck_ushr, ck_i2l, ck_l2i, ck_cmp]) (by simp only [yl_lit, yL_lit, yw_add, yw_sub, yw_mul, yw_neg, yl_add, yl_sub, yl_mul, cj_and, cj_or, cj_xor, cj_shl, cj_shr, cj_ushr, cj_div, cj_i2c, cj_i2b, cj_dc, ck_and, ck_or, ck_xor, ck_shl, ck_shr, ck_ushr, ck_i2l, ck_l2i, ck_cmp]) ?_
    refine xZ.k_wJB (me := xm258) hP_258 rfl (fun M4 => ?_)
    refine xZ.adv (me := xm258) hP_258 4 (pc' := 50) (lv' := [(1, .int ((yw ((x3 + 1) + 1)) + (1 : Int32))), (2, .ref x4), (0, .ref v0)]) (st' := [.int (108 : Int32), .int (yw ((x3 + 1) + 1)), .ref x4]) rfl ?_
    refine xZ.eqs (lv2 := [(1, .int (yw (((x3 + 1) + 1) + 1))), (2, .ref x4), (0, .ref v0)]) (st2 := [.int (yw 108), .int (yw ((x3 + 1) + 1)), .ref x4]) (by simp only [yl_lit, yL_lit, yw_add, yw_sub, yw_mul, yw_neg, yl_add, yl_sub, yl_mul, cj_and, cj_or, cj_xor, cj_shl, cj_shr, cj_ushr, cj_div, cj_i2c, cj_i2b, cj_dc, ck_and, ck_or, ck_xor, ck_shl, ck_shr, ck_ushr, ck_i2l, ck_l2i, ck_cmp]) (by simp only [yl_lit, yL_lit, yw_add, yw_sub, yw_mul, yw_neg, yl_add, yl_sub, yl_mul, cj_and, cj_or, cj_xor, cj_shl, cj_shr, cj_ushr, cj_div, cj_i2c, cj_i2b, cj_dc, ck_and, ck_or, ck_xor, ck_shl, ck_shr, ck_ushr, ck_i2l, ck_l2i, ck_cmp]) ?_
    refine xZ.k_wJB (me := xm258) hP_258 rfl (fun M5 => ?_)
    refine xZ.adv (me := xm258) hP_258 4 (pc' := 58) (lv' := [(1, .int ((yw (((x3 + 1) + 1) + 1)) + (1 : Int32))), (2, .ref x4), (0, .ref v0)]) (st' := [.int (108 : Int32), .int (yw (((x3 + 1) + 1) + 1)), .ref x4]) rfl ?_
    refine xZ.eqs (lv2 := [(1, .int (yw ((((x3 + 1) + 1) + 1) + 1))), (2, .ref x4), (0, .ref v0)]) (st2 := [.int (yw 108), .int (yw (((x3 + 1) + 1) + 1)), .ref x4]) (by simp only [yl_lit, yL_lit, yw_add, yw_sub, yw_mul, yw_neg, yl_add, yl_sub, yl_mul, cj_and, cj_or, cj_xor, cj_shl, cj_shr, cj_ushr, cj_div, cj_i2c, cj_i2b, cj_dc, ck_and, ck_or, ck_xor, ck_shl, ck_shr, ck_ushr, ck_i2l, ck_l2i, ck_cmp]) (by simp only [yl_lit, yL_lit, yw_add, yw_sub, yw_mul, yw_neg, yl_add, yl_sub, yl_mul, cj_and, cj_or, cj_xor, cj_shl, cj_shr, cj_ushr, cj_div, cj_i2c, cj_i2b, cj_dc, ck_and, ck_or, ck_xor, ck_shl, ck_shr, ck_ushr, ck_i2l, ck_l2i, ck_cmp]) ?_
    refine xZ.k_wJB (me := xm258) hP_258 rfl (fun M6 => ?_)
    refine xZ.adv (me := xm258) hP_258 3 (pc' := 78) (lv' := [(1, .int (yw ((((x3 + 1) + 1) + 1) + 1))), (2, .ref x4), (0, .ref v0)]) (st' := [.int (yw ((((x3 + 1) + 1) + 1) + 1)), .ref v0]) rfl ?_
    refine xZ.k_pJ (me := xm258) hP_258 rfl (fun M7 => ?_)
    refine xZ.adv (me := xm258) hP_258 1 (pc' := 82) (lv' := [(1, .int (yw ((((x3 + 1) + 1) + 1) + 1))), (2, .ref x4), (0, .ref v0)]) (st' := [.ref v0]) rfl ?_
    exact xZ.retr (me := xm258) hP_258 rfl rfl rfl
def f_String_coder (O : Nat → Option va_E) (f : Nat) (v0 : Nat) (M : xM) : Option (Int × xM) :=
  if yw 1 = yw 0 then (
    if xfit .byte (.int (yw 1)) = true then some (1, M) else none
  ) else
  (gJ O M v0 0 1).bind fun x1 =>
  if xfit .byte (.int (yw x1)) = true then some (x1, M) else none
set_option maxRecDepth 20000 in
theorem k_f_String_coder (O : Nat → Option va_E) (f d : Nat) (v0 : Nat) (M : xM) : xZ oJ O (d + 0) 268 0 [(0, .ref v0)] [] M (f_String_coder O f v0 M) := by
  unfold f_String_coder
  refine xZ.adv (me := xm268) hP_268 1 (pc' := 3) (lv' := [(0, .ref v0)]) (st' := [.int (1 : Int32)]) rfl ?_
  refine xZ.eqs (lv2 := [(0, .ref v0)]) (st2 := [.int (yw 1)]) rfl (by simp only [yl_lit, yL_lit, yw_add, yw_sub, yw_mul, yw_neg, yl_add, yl_sub, yl_mul, cj_and, cj_or, cj_xor, cj_shl, cj_shr, cj_ushr, cj_div, cj_i2c, cj_i2b, cj_dc, ck_and, ck_or, ck_xor, ck_shl, ck_shr, ck_ushr, ck_i2l, ck_l2i, ck_cmp]) ?_
  refine xZ.jf_eq (me := xm268) hP_268 rfl (fun h1 => ?_) (fun h1 => ?_)
  · skip
    refine xZ.adv (me := xm268) hP_268 1 (pc' := 14) (lv' := [(0, .ref v0)]) (st' := [.int (1 : Int32)]) rfl ?_
    refine xZ.eqs (lv2 := [(0, .ref v0)]) (st2 := [.int (yw 1)]) rfl (by simp only [yl_lit, yL_lit, yw_add, yw_sub, yw_mul, yw_neg, yl_add, yl_sub, yl_mul, cj_and, cj_or, cj_xor, cj_shl, cj_shr, cj_ushr, cj_div, cj_i2c, cj_i2b, cj_dc, ck_and, ck_or, ck_xor, ck_shl, ck_shr, ck_ushr, ck_i2l, ck_l2i, ck_cmp]) ?_
    exact xZ.jretf (me := xm268) hP_268 rfl rfl
  · skip
    refine xZ.adv (me := xm268) hP_268 1 (pc' := 7) (lv' := [(0, .ref v0)]) (st' := [.ref v0]) rfl ?_
    refine xZ.k_gJ (me := xm268) hP_268 rfl (fun x1 => ?_)
    refine xZ.adv (me := xm268) hP_268 1 (pc' := 14) (lv' := [(0, .ref v0)]) (st' := [.int (yw x1)]) rfl ?_
    exact xZ.jretf (me := xm268) hP_268 rfl rfl
def f_String_length (O : Nat → Option va_E) (f : Nat) (v0 : Nat) (M : xM) : Option (Int × xM) :=
  (gR O M v0 0 0).bind fun x1 =>
  (aJN O M x1).bind fun x2 =>
  (isO O M v0 0).bind fun _ =>
  xcl (f_String_coder O f v0 M) fun x3 M1 =>
  some ((jshr x2 (jand x3 31)), M1)
set_option maxRecDepth 20000 in
theorem k_f_String_length (O : Nat → Option va_E) (f d : Nat) (v0 : Nat) (M : xM) : xZ oJ O (d + 1) 267 0 [(0, .ref v0)] [] M (f_String_length O f v0 M) := by
  unfold f_String_length
  refine xZ.adv (me := xm267) hP_267 1 (pc' := 1) (lv' := [(0, .ref v0)]) (st' := [.ref v0]) rfl ?_
  refine xZ.k_gR (me := xm267) hP_267 rfl (fun x1 => ?_)
  refine xZ.k_aJN (me := xm267) hP_267 rfl (fun x2 => ?_)
  refine xZ.adv (me := xm267) hP_267 1 (pc' := 6) (lv' := [(0, .ref v0)]) (st' := [.ref v0, .int (yw x2)]) rfl ?_
  refine xZ.callv (κ := oJ) (av := []) (rest := [.int (yw x2)]) (st' := fun x3 => [.int (yw x3), .int (yw x2)]) (k0 := v0) (me := xm267) hP_267 rfl (Or.inl rfl) ⟨rfl, by decide⟩ rfl rfl (Nat.le_of_ble_eq_true rfl) (by decide) hP_268 (Nat.le_of_ble_eq_true rfl) (fun _ => rfl) (k_f_String_coder O f (d + 0) v0 M) (fun x3 M1 => ?_)
  refine xZ.adv (me := xm267) hP_267 1 (pc' := 10) (lv' := [(0, .ref v0)]) (st' := [.int ((yw x2) >>> ((yw x3) &&& 31))]) rfl ?_
  refine xZ.eqs (lv2 := [(0, .ref v0)]) (st2 := [.int (yw (jshr x2 (jand x3 31)))]) rfl (by simp only [yl_lit, yL_lit, yw_add, yw_sub, yw_mul, yw_neg, yl_add, yl_sub, yl_mul, cj_and, cj_or, cj_xor, cj_shl, cj_shr, cj_ushr, cj_div, cj_i2c, cj_i2b, cj_dc, ck_and, ck_or, ck_xor, ck_shl, ck_shr, ck_ushr, ck_i2l, ck_l2i, ck_cmp]) ?_
  exact xZ.jreti (me := xm267) hP_267 rfl rfl
def f_StringLatin1_inflate (O : Nat → Option va_E) (f : Nat) (v0 : Nat) (v1 : Int) (v2 : Nat) (v3 : Int) (v4 : Int) (M : xM) : Option (Unit × xM) :=
  none
set_option maxRecDepth 20000 in
theorem k_f_StringLatin1_inflate (O : Nat → Option va_E) (f d : Nat) (v0 : Nat) (v1 : Int) (v2 : Nat) (v3 : Int) (v4 : Int) (M : xM) : xZ oU O (d + 0) 272 0 [(0, .ref v0), (1, .int (yw v1)), (2, .ref v2), (3, .int (yw v3)), (4, .int (yw v4))] [] M (f_StringLatin1_inflate O f v0 v1 v2 v3 v4 M) := by
  unfold f_StringLatin1_inflate
  refine xZ.adv (me := xm272) hP_272 5 (pc' := 6) (lv' := [(0, .ref v0), (1, .int (yw v1)), (2, .ref v2), (3, .int (yw v3)), (4, .int (yw v4))]) (st' := [.int (yw v4), .int (yw v3), .ref v2, .int (yw v1), .ref v0]) rfl ?_
  exact xZ.no
def f_AbstractStringBuilder_inflate (O : Nat → Option va_E) (f : Nat) (v0 : Nat) (M : xM) : Option (Unit × xM) :=
  (isO O M v0 1).bind fun _ =>
  xcl (f_AbstractStringBuilder_isLatin1 O f v0 M) fun x1 M1 =>
  if yw x1 = yw 0 then (
    some ((), M1)
  ) else
  (gR O M1 v0 1 0).bind fun x2 =>
  (aJN O M1 x2).bind fun x3 =>
  none
set_option maxRecDepth 20000 in
theorem k_f_AbstractStringBuilder_inflate (O : Nat → Option va_E) (f d : Nat) (v0 : Nat) (M : xM) : xZ oU O (d + 1) 271 0 [(0, .ref v0)] [] M (f_AbstractStringBuilder_inflate O f v0 M) := by
  unfold f_AbstractStringBuilder_inflate
  refine xZ.adv (me := xm271) hP_271 1 (pc' := 1) (lv' := [(0, .ref v0)]) (st' := [.ref v0]) rfl ?_
  refine xZ.callv (κ := oJ) (av := []) (rest := []) (st' := fun x1 => [.int (yw x1)]) (k0 := v0) (me := xm271) hP_271 rfl (Or.inr (Or.inl rfl)) ⟨rfl, by decide⟩ rfl rfl (Nat.le_of_ble_eq_true rfl) (by decide) hP_264 (Nat.le_of_ble_eq_true rfl) (fun _ => rfl) (k_f_AbstractStringBuilder_isLatin1 O f (d + 0) v0 M) (fun x1 M1 => ?_)
  refine xZ.jf_ne (me := xm271) hP_271 rfl (fun h1 => ?_) (fun h1 => ?_)
  · skip
    exact xZ.retu (me := xm271) hP_271 rfl rfl
  · skip
    refine xZ.adv (me := xm271) hP_271 1 (pc' := 9) (lv' := [(0, .ref v0)]) (st' := [.ref v0]) rfl ?_
    refine xZ.k_gR (me := xm271) hP_271 rfl (fun x2 => ?_)
    refine xZ.k_aJN (me := xm271) hP_271 rfl (fun x3 => ?_)
    exact xZ.no
def f_AbstractStringBuilder_inflateIfNeededFor (O : Nat → Option va_E) (f : Nat) (v0 : Nat) (v1 : Nat) (M : xM) : Option (Unit × xM) :=
  if yw 1 = yw 0 then (
    some ((), M)
  ) else
  (gJ O M v0 1 1).bind fun x1 =>
  (isO O M v1 0).bind fun _ =>
  xcl (f_String_coder O f v1 M) fun x2 M1 =>
  if yw x1 = yw x2 then (
    some ((), M1)
  ) else
  (isO O M1 v0 1).bind fun _ =>
  xcl (f_AbstractStringBuilder_inflate O f v0 M1) fun _ M2 =>
  some ((), M2)
set_option maxRecDepth 20000 in
theorem k_f_AbstractStringBuilder_inflateIfNeededFor (O : Nat → Option va_E) (f d : Nat) (v0 : Nat) (v1 : Nat) (M : xM) : xZ oU O (d + 2) 270 0 [(0, .ref v0), (1, .ref v1)] [] M (f_AbstractStringBuilder_inflateIfNeededFor O f v0 v1 M) := by
  unfold f_AbstractStringBuilder_inflateIfNeededFor
  refine xZ.adv (me := xm270) hP_270 1 (pc' := 3) (lv' := [(0, .ref v0), (1, .ref v1)]) (st' := [.int (1 : Int32)]) rfl ?_
  refine xZ.eqs (lv2 := [(0, .ref v0), (1, .ref v1)]) (st2 := [.int (yw 1)]) rfl (by simp only [yl_lit, yL_lit, yw_add, yw_sub, yw_mul, yw_neg, yl_add, yl_sub, yl_mul, cj_and, cj_or, cj_xor, cj_shl, cj_shr, cj_ushr, cj_div, cj_i2c, cj_i2b, cj_dc, ck_and, ck_or, ck_xor, ck_shl, ck_shr, ck_ushr, ck_i2l, ck_l2i, ck_cmp]) ?_
  refine xZ.jf_eq (me := xm270) hP_270 rfl (fun h1 => ?_) (fun h1 => ?_)
  · skip
    exact xZ.retu (me := xm270) hP_270 rfl rfl
  · skip
    refine xZ.adv (me := xm270) hP_270 1 (pc' := 7) (lv' := [(0, .ref v0), (1, .ref v1)]) (st' := [.ref v0]) rfl ?_
    refine xZ.k_gJ (me := xm270) hP_270 rfl (fun x1 => ?_)
    refine xZ.adv (me := xm270) hP_270 1 (pc' := 11) (lv' := [(0, .ref v0), (1, .ref v1)]) (st' := [.ref v1, .int (yw x1)]) rfl ?_
    refine xZ.callv (κ := oJ) (av := []) (rest := [.int (yw x1)]) (st' := fun x2 => [.int (yw x2), .int (yw x1)]) (k0 := v1) (me := xm270) hP_270 rfl (Or.inl rfl) ⟨rfl, by decide⟩ rfl rfl (Nat.le_of_ble_eq_true rfl) (by decide) hP_268 (Nat.le_of_ble_eq_true rfl) (fun _ => rfl) (k_f_String_coder O f (d + 1) v1 M) (fun x2 M1 => ?_)
    refine xZ.jc_eq (me := xm270) hP_270 rfl (fun h2 => ?_) (fun h2 => ?_)
    · skip
      exact xZ.retu (me := xm270) hP_270 rfl rfl
    · skip
      refine xZ.adv (me := xm270) hP_270 1 (pc' := 18) (lv' := [(0, .ref v0), (1, .ref v1)]) (st' := [.ref v0]) rfl ?_
      refine xZ.callv (κ := oU) (av := []) (rest := []) (st' := fun _ => []) (k0 := v0) (me := xm270) hP_270 rfl (Or.inr (Or.inl rfl)) ⟨rfl, by decide⟩ rfl rfl (Nat.le_of_ble_eq_true rfl) (by decide) hP_271 (Nat.le_of_ble_eq_true rfl) (fun _ => rfl) (k_f_AbstractStringBuilder_inflate O f (d + 0) v0 M1) (fun _ M2 => ?_)
      exact xZ.retu (me := xm270) hP_270 rfl rfl
def f_String_getBytes (O : Nat → Option va_E) (f : Nat) (v0 : Nat) (v1 : Nat) (v2 : Int) (v3 : Int) (M : xM) : Option (Unit × xM) :=
  (isO O M v0 0).bind fun _ =>
  xcl (f_String_coder O f v0 M) fun x1 M1 =>
  if yw x1 = yw v3 then (
    (gR O M1 v0 0 0).bind fun x2 =>
    (gR O M1 v0 0 0).bind fun x3 =>
    (aJN O M1 x3).bind fun x4 =>
    (cpJ O M1 x2 0 v1 (jshl v2 (jand v3 31)) x4).bind fun M2 =>
    some ((), M2)
  ) else
  (gR O M1 v0 0 0).bind fun x5 =>
  (gR O M1 v0 0 0).bind fun x6 =>
  (aJN O M1 x6).bind fun x7 =>
  xcl (f_StringLatin1_inflate O f x5 0 v1 v2 x7 M1) fun _ M3 =>
  some ((), M3)
set_option maxRecDepth 20000 in
theorem k_f_String_getBytes (O : Nat → Option va_E) (f d : Nat) (v0 : Nat) (v1 : Nat) (v2 : Int) (v3 : Int) (M : xM) : xZ oU O (d + 1) 275 0 [(0, .ref v0), (1, .ref v1), (2, .int (yw v2)), (3, .int (yw v3))] [] M (f_String_getBytes O f v0 v1 v2 v3 M) := by
  unfold f_String_getBytes
  refine xZ.adv (me := xm275) hP_275 1 (pc' := 1) (lv' := [(0, .ref v0), (1, .ref v1), (2, .int (yw v2)), (3, .int (yw v3))]) (st' := [.ref v0]) rfl ?_
  refine xZ.callv (κ := oJ) (av := []) (rest := []) (st' := fun x1 => [.int (yw x1)]) (k0 := v0) (me := xm275) hP_275 rfl (Or.inl rfl) ⟨rfl, by decide⟩ rfl rfl (Nat.le_of_ble_eq_true rfl) (by decide) hP_268 (Nat.le_of_ble_eq_true rfl) (fun _ => rfl) (k_f_String_coder O f (d + 0) v0 M) (fun x1 M1 => ?_)
  refine xZ.adv (me := xm275) hP_275 1 (pc' := 5) (lv' := [(0, .ref v0), (1, .ref v1), (2, .int (yw v2)), (3, .int (yw v3))]) (st' := [.int (yw v3), .int (yw x1)]) rfl ?_
  refine xZ.jc_ne (me := xm275) hP_275 rfl (fun h1 => ?_) (fun h1 => ?_)
  · skip
    refine xZ.adv (me := xm275) hP_275 1 (pc' := 9) (lv' := [(0, .ref v0), (1, .ref v1), (2, .int (yw v2)), (3, .int (yw v3))]) (st' := [.ref v0]) rfl ?_
    refine xZ.k_gR (me := xm275) hP_275 rfl (fun x2 => ?_)
    refine xZ.adv (me := xm275) hP_275 6 (pc' := 18) (lv' := [(0, .ref v0), (1, .ref v1), (2, .int (yw v2)), (3, .int (yw v3))]) (st' := [.ref v0, .int ((yw v2) <<< ((yw v3) &&& 31)), .ref v1, .int (0 : Int32), .ref x2]) rfl ?_
    refine xZ.eqs (lv2 := [(0, .ref v0), (1, .ref v1), (2, .int (yw v2)), (3, .int (yw v3))]) (st2 := [.ref v0, .int (yw (jshl v2 (jand v3 31))), .ref v1, .int (yw 0), .ref x2]) rfl (by simp only [yl_lit, yL_lit, yw_add, yw_sub, yw_mul, yw_neg, yl_add, yl_sub, yl_mul, cj_and, cj_or, cj_xor, cj_shl, cj_shr, cj_ushr, cj_div, cj_i2c, cj_i2b, cj_dc, ck_and, ck_or, ck_xor, ck_shl, ck_shr, ck_ushr, ck_i2l, ck_l2i, ck_cmp]) ?_
    refine xZ.k_gR (me := xm275) hP_275 rfl (fun x3 => ?_)
    refine xZ.k_aJN (me := xm275) hP_275 rfl (fun x4 => ?_)
    refine xZ.k_cpJ (me := xm275) hP_275 rfl (Nat.le_of_ble_eq_true rfl) (fun M2 => ?_)
    refine xZ.adv (me := xm275) hP_275 1 (pc' := 43) (lv' := [(0, .ref v0), (1, .ref v1), (2, .int (yw v2)), (3, .int (yw v3))]) (st' := []) rfl ?_
    exact xZ.retu (me := xm275) hP_275 rfl rfl
  · skip
    refine xZ.adv (me := xm275) hP_275 1 (pc' := 29) (lv' := [(0, .ref v0), (1, .ref v1), (2, .int (yw v2)), (3, .int (yw v3))]) (st' := [.ref v0]) rfl ?_
    refine xZ.k_gR (me := xm275) hP_275 rfl (fun x5 => ?_)
    refine xZ.adv (me := xm275) hP_275 4 (pc' := 36) (lv' := [(0, .ref v0), (1, .ref v1), (2, .int (yw v2)), (3, .int (yw v3))]) (st' := [.ref v0, .int (yw v2), .ref v1, .int (0 : Int32), .ref x5]) rfl ?_
    refine xZ.eqs (lv2 := [(0, .ref v0), (1, .ref v1), (2, .int (yw v2)), (3, .int (yw v3))]) (st2 := [.ref v0, .int (yw v2), .ref v1, .int (yw 0), .ref x5]) rfl (by simp only [yl_lit, yL_lit, yw_add, yw_sub, yw_mul, yw_neg, yl_add, yl_sub, yl_mul, cj_and, cj_or, cj_xor, cj_shl, cj_shr, cj_ushr, cj_div, cj_i2c, cj_i2b, cj_dc, ck_and, ck_or, ck_xor, ck_shl, ck_shr, ck_ushr, ck_i2l, ck_l2i, ck_cmp]) ?_
    refine xZ.k_gR (me := xm275) hP_275 rfl (fun x6 => ?_)
    refine xZ.k_aJN (me := xm275) hP_275 rfl (fun x7 => ?_)
    refine xZ.calls (κ := oU) (av := [.ref x5, .int (yw 0), .ref v1, .int (yw v2), .int (yw x7)]) (rest := []) (st' := fun _ => []) (me := xm275) hP_275 rfl rfl rfl (Nat.le_of_ble_eq_true rfl) (by decide) hP_272 (Nat.le_of_ble_eq_true rfl) (fun _ => rfl) (k_f_StringLatin1_inflate O f (d + 0) x5 0 v1 v2 x7 M1) (fun _ M3 => ?_)
    exact xZ.retu (me := xm275) hP_275 rfl rfl
def f_AbstractStringBuilder_putStringAt (O : Nat → Option va_E) (f : Nat) (v0 : Nat) (v1 : Int) (v2 : Nat) (M : xM) : Option (Unit × xM) :=
  (isO O M v0 1).bind fun _ =>
  xcl (f_AbstractStringBuilder_inflateIfNeededFor O f v0 v2 M) fun _ M1 =>
  (gR O M1 v0 1 0).bind fun x2 =>
  (gJ O M1 v0 1 1).bind fun x3 =>
  (isO O M1 v2 0).bind fun _ =>
  xcl (f_String_getBytes O f v2 x2 v1 x3 M1) fun _ M2 =>
  some ((), M2)
set_option maxRecDepth 20000 in
theorem k_f_AbstractStringBuilder_putStringAt (O : Nat → Option va_E) (f d : Nat) (v0 : Nat) (v1 : Int) (v2 : Nat) (M : xM) : xZ oU O (d + 3) 269 0 [(0, .ref v0), (1, .int (yw v1)), (2, .ref v2)] [] M (f_AbstractStringBuilder_putStringAt O f v0 v1 v2 M) := by
  unfold f_AbstractStringBuilder_putStringAt
  refine xZ.adv (me := xm269) hP_269 2 (pc' := 2) (lv' := [(0, .ref v0), (1, .int (yw v1)), (2, .ref v2)]) (st' := [.ref v2, .ref v0]) rfl ?_
  refine xZ.callv (κ := oU) (av := [.ref v2]) (rest := []) (st' := fun _ => []) (k0 := v0) (me := xm269) hP_269 rfl (Or.inr (Or.inl rfl)) ⟨rfl, by decide⟩ rfl rfl (Nat.le_of_ble_eq_true rfl) (by decide) hP_270 (Nat.le_of_ble_eq_true rfl) (fun _ => rfl) (k_f_AbstractStringBuilder_inflateIfNeededFor O f (d + 0) v0 v2 M) (fun _ M1 => ?_)
  refine xZ.adv (me := xm269) hP_269 2 (pc' := 7) (lv' := [(0, .ref v0), (1, .int (yw v1)), (2, .ref v2)]) (st' := [.ref v0, .ref v2]) rfl ?_
  refine xZ.k_gR (me := xm269) hP_269 rfl (fun x2 => ?_)
  refine xZ.adv (me := xm269) hP_269 2 (pc' := 12) (lv' := [(0, .ref v0), (1, .int (yw v1)), (2, .ref v2)]) (st' := [.ref v0, .int (yw v1), .ref x2, .ref v2]) rfl ?_
  refine xZ.k_gJ (me := xm269) hP_269 rfl (fun x3 => ?_)
  refine xZ.callv (κ := oU) (av := [.ref x2, .int (yw v1), .int (yw x3)]) (rest := []) (st' := fun _ => []) (k0 := v2) (me := xm269) hP_269 rfl (Or.inl rfl) ⟨rfl, by decide⟩ rfl rfl (Nat.le_of_ble_eq_true rfl) (by decide) hP_275 (Nat.le_of_ble_eq_true rfl) (fun _ => rfl) (k_f_String_getBytes O f (d + 1) v2 x2 v1 x3 M1) (fun _ M2 => ?_)
  exact xZ.retu (me := xm269) hP_269 rfl rfl
def f_AbstractStringBuilder_append_257 (O : Nat → Option va_E) (f : Nat) (v0 : Nat) (v1 : Nat) (M : xM) : Option (Nat × xM) :=
  (isO O M v1 0).bind fun _ =>
  xcl (f_String_length O f v1 M) fun x1 M1 =>
  (gJ O M1 v0 1 3).bind fun x2 =>
  (isO O M1 v0 1).bind fun _ =>
  xcl (f_AbstractStringBuilder_ensureCapacityInternal O f v0 (x2 + x1) M1) fun _ M2 =>
  (gJ O M2 v0 1 3).bind fun x4 =>
  (isO O M2 v0 1).bind fun _ =>
  xcl (f_AbstractStringBuilder_putStringAt O f v0 x4 v1 M2) fun _ M3 =>
  (gJ O M3 v0 1 3).bind fun x6 =>
  (pJ M3 v0 1 3 (x6 + x1)).bind fun M4 =>
  some (v0, M4)
set_option maxRecDepth 20000 in
theorem k_f_AbstractStringBuilder_append_257 (O : Nat → Option va_E) (f d : Nat) (v0 : Nat) (v1 : Nat) (M : xM) : xZ oR O (d + 5) 257 0 [(0, .ref v0), (1, .ref v1)] [] M (f_AbstractStringBuilder_append_257 O f v0 v1 M) := by
  unfold f_AbstractStringBuilder_append_257
  refine xZ.adv (me := xm257) hP_257 1 (pc' := 1) (lv' := [(0, .ref v0), (1, .ref v1)]) (st' := [.ref v1]) rfl ?_
  refine xZ.one (pc' := 9) (lv' := [(0, .ref v0), (1, .ref v1)]) (st' := []) (me := xm257) hP_257 rfl rfl ?_
  refine xZ.adv (me := xm257) hP_257 1 (pc' := 10) (lv' := [(0, .ref v0), (1, .ref v1)]) (st' := [.ref v1]) rfl ?_
  refine xZ.callv (κ := oJ) (av := []) (rest := []) (st' := fun x1 => [.int (yw x1)]) (k0 := v1) (me := xm257) hP_257 rfl (Or.inl rfl) ⟨rfl, by decide⟩ rfl rfl (Nat.le_of_ble_eq_true rfl) (by decide) hP_267 (Nat.le_of_ble_eq_true rfl) (fun _ => rfl) (k_f_String_length O f (d + 3) v1 M) (fun x1 M1 => ?_)
  refine xZ.adv (me := xm257) hP_257 3 (pc' := 16) (lv' := [(2, .int (yw x1)), (0, .ref v0), (1, .ref v1)]) (st' := [.ref v0, .ref v0]) rfl ?_
  refine xZ.k_gJ (me := xm257) hP_257 rfl (fun x2 => ?_)
  refine xZ.adv (me := xm257) hP_257 2 (pc' := 21) (lv' := [(2, .int (yw x1)), (0, .ref v0), (1, .ref v1)]) (st' := [.int ((yw x2) + (yw x1)), .ref v0]) rfl ?_
  refine xZ.eqs (lv2 := [(2, .int (yw x1)), (0, .ref v0), (1, .ref v1)]) (st2 := [.int (yw (x2 + x1)), .ref v0]) rfl (by simp only [yl_lit, yL_lit, yw_add, yw_sub, yw_mul, yw_neg, yl_add, yl_sub, yl_mul, cj_and, cj_or, cj_xor, cj_shl, cj_shr, cj_ushr, cj_div, cj_i2c, cj_i2b, cj_dc, ck_and, ck_or, ck_xor, ck_shl, ck_shr, ck_ushr, ck_i2l, ck_l2i, ck_cmp]) ?_
  refine xZ.callv (κ := oU) (av := [.int (yw (x2 + x1))]) (rest := []) (st' := fun _ => []) (k0 := v0) (me := xm257) hP_257 rfl (Or.inr (Or.inl rfl)) ⟨rfl, by decide⟩ rfl rfl (Nat.le_of_ble_eq_true rfl) (by decide) hP_259 (Nat.le_of_ble_eq_true rfl) (fun _ => rfl) (k_f_AbstractStringBuilder_ensureCapacityInternal O f (d + 1) v0 (x2 + x1) M1) (fun _ M2 => ?_)
  refine xZ.adv (me := xm257) hP_257 2 (pc' := 26) (lv' := [(2, .int (yw x1)), (0, .ref v0), (1, .ref v1)]) (st' := [.ref v0, .ref v0]) rfl ?_
  refine xZ.k_gJ (me := xm257) hP_257 rfl (fun x4 => ?_)
  refine xZ.adv (me := xm257) hP_257 1 (pc' := 30) (lv' := [(2, .int (yw x1)), (0, .ref v0), (1, .ref v1)]) (st' := [.ref v1, .int (yw x4), .ref v0]) rfl ?_
  refine xZ.callv (κ := oU) (av := [.int (yw x4), .ref v1]) (rest := []) (st' := fun _ => []) (k0 := v0) (me := xm257) hP_257 rfl (Or.inr (Or.inl rfl)) ⟨rfl, by decide⟩ rfl rfl (Nat.le_of_ble_eq_true rfl) (by decide) hP_269 (Nat.le_of_ble_eq_true rfl) (fun _ => rfl) (k_f_AbstractStringBuilder_putStringAt O f (d + 1) v0 x4 v1 M2) (fun _ M3 => ?_)
  refine xZ.adv (me := xm257) hP_257 2 (pc' := 35) (lv' := [(2, .int (yw x1)), (0, .ref v0), (1, .ref v1)]) (st' := [.ref v0, .ref v0]) rfl ?_
  refine xZ.k_gJ (me := xm257) hP_257 rfl (fun x6 => ?_)
  refine xZ.adv (me := xm257) hP_257 2 (pc' := 40) (lv' := [(2, .int (yw x1)), (0, .ref v0), (1, .ref v1)]) (st' := [.int ((yw x6) + (yw x1)), .ref v0]) rfl ?_
  refine xZ.eqs (lv2 := [(2, .int (yw x1)), (0, .ref v0), (1, .ref v1)]) (st2 := [.int (yw (x6 + x1)), .ref v0]) rfl (by simp only [yl_lit, yL_lit, yw_add, yw_sub, yw_mul, yw_neg, yl_add, yl_sub, yl_mul, cj_and, cj_or, cj_xor, cj_shl, cj_shr, cj_ushr, cj_div, cj_i2c, cj_i2b, cj_dc, ck_and, ck_or, ck_xor, ck_shl, ck_shr, ck_ushr, ck_i2l, ck_l2i, ck_cmp]) ?_
  refine xZ.k_pJ (me := xm257) hP_257 rfl (fun M4 => ?_)
  refine xZ.adv (me := xm257) hP_257 1 (pc' := 44) (lv' := [(2, .int (yw x1)), (0, .ref v0), (1, .ref v1)]) (st' := [.ref v0]) rfl ?_
  exact xZ.retr (me := xm257) hP_257 rfl rfl rfl
def f_StringBuilder_append_256 (O : Nat → Option va_E) (f : Nat) (v0 : Nat) (v1 : Nat) (M : xM) : Option (Nat × xM) :=
  (isO O M v0 1).bind fun _ =>
  xcl (f_AbstractStringBuilder_append_257 O f v0 v1 M) fun x1 M1 =>
  some (v0, M1)
set_option maxRecDepth 20000 in
theorem k_f_StringBuilder_append_256 (O : Nat → Option va_E) (f d : Nat) (v0 : Nat) (v1 : Nat) (M : xM) : xZ oR O (d + 6) 256 0 [(0, .ref v0), (1, .ref v1)] [] M (f_StringBuilder_append_256 O f v0 v1 M) := by
  unfold f_StringBuilder_append_256
  refine xZ.adv (me := xm256) hP_256 2 (pc' := 2) (lv' := [(0, .ref v0), (1, .ref v1)]) (st' := [.ref v1, .ref v0]) rfl ?_
  refine xZ.callu (κ := oR) (av := [.ref v1]) (rest := []) (st' := fun x1 => [.ref x1]) (k0 := v0) (me := xm256) hP_256 rfl ⟨rfl, by decide⟩ rfl rfl (Nat.le_of_ble_eq_true rfl) (by decide) hP_257 (Nat.le_of_ble_eq_true rfl) (fun _ => rfl) (k_f_AbstractStringBuilder_append_257 O f (d + 0) v0 v1 M) (fun x1 M1 => ?_)
  refine xZ.adv (me := xm256) hP_256 2 (pc' := 7) (lv' := [(0, .ref v0), (1, .ref v1)]) (st' := [.ref v0]) rfl ?_
  exact xZ.retr (me := xm256) hP_256 rfl rfl rfl
def f_AbstractStringBuilder_getValue (O : Nat → Option va_E) (f : Nat) (v0 : Nat) (M : xM) : Option (Nat × xM) :=
  (gR O M v0 1 0).bind fun x1 =>
  some (x1, M)
set_option maxRecDepth 20000 in
theorem k_f_AbstractStringBuilder_getValue (O : Nat → Option va_E) (f d : Nat) (v0 : Nat) (M : xM) : xZ oR O (d + 0) 279 0 [(0, .ref v0)] [] M (f_AbstractStringBuilder_getValue O f v0 M) := by
  unfold f_AbstractStringBuilder_getValue
  refine xZ.adv (me := xm279) hP_279 1 (pc' := 1) (lv' := [(0, .ref v0)]) (st' := [.ref v0]) rfl ?_
  refine xZ.k_gR (me := xm279) hP_279 rfl (fun x1 => ?_)
  exact xZ.retr (me := xm279) hP_279 rfl rfl rfl
def f_AbstractStringBuilder_length (O : Nat → Option va_E) (f : Nat) (v0 : Nat) (M : xM) : Option (Int × xM) :=
  (gJ O M v0 1 3).bind fun x1 =>
  some (x1, M)
set_option maxRecDepth 20000 in
theorem k_f_AbstractStringBuilder_length (O : Nat → Option va_E) (f d : Nat) (v0 : Nat) (M : xM) : xZ oJ O (d + 0) 281 0 [(0, .ref v0)] [] M (f_AbstractStringBuilder_length O f v0 M) := by
  unfold f_AbstractStringBuilder_length
  refine xZ.adv (me := xm281) hP_281 1 (pc' := 1) (lv' := [(0, .ref v0)]) (st' := [.ref v0]) rfl ?_
  refine xZ.k_gJ (me := xm281) hP_281 rfl (fun x1 => ?_)
  exact xZ.jreti (me := xm281) hP_281 rfl rfl
def f_StringBuilder_length (O : Nat → Option va_E) (f : Nat) (v0 : Nat) (M : xM) : Option (Int × xM) :=
  (isO O M v0 1).bind fun _ =>
  xcl (f_AbstractStringBuilder_length O f v0 M) fun x1 M1 =>
  some (x1, M1)
set_option maxRecDepth 20000 in
theorem k_f_StringBuilder_length (O : Nat → Option va_E) (f d : Nat) (v0 : Nat) (M : xM) : xZ oJ O (d + 1) 280 0 [(0, .ref v0)] [] M (f_StringBuilder_length O f v0 M) := by
  unfold f_StringBuilder_length
  refine xZ.adv (me := xm280) hP_280 1 (pc' := 1) (lv' := [(0, .ref v0)]) (st' := [.ref v0]) rfl ?_
  refine xZ.callu (κ := oJ) (av := []) (rest := []) (st' := fun x1 => [.int (yw x1)]) (k0 := v0) (me := xm280) hP_280 rfl ⟨rfl, by decide⟩ rfl rfl (Nat.le_of_ble_eq_true rfl) (by decide) hP_281 (Nat.le_of_ble_eq_true rfl) (fun _ => rfl) (k_f_AbstractStringBuilder_length O f (d + 0) v0 M) (fun x1 M1 => ?_)
  exact xZ.jreti (me := xm280) hP_280 rfl rfl
def f_Arrays_checkLength (O : Nat → Option va_E) (f : Nat) (v0 : Int) (v1 : Int) (M : xM) : Option (Unit × xM) :=
  if yw v0 ≤ yw v1 then (
    some ((), M)
  ) else
  none
set_option maxRecDepth 20000 in
theorem k_f_Arrays_checkLength (O : Nat → Option va_E) (f d : Nat) (v0 : Int) (v1 : Int) (M : xM) : xZ oU O (d + 0) 284 0 [(0, .int (yw v0)), (1, .int (yw v1))] [] M (f_Arrays_checkLength O f v0 v1 M) := by
  unfold f_Arrays_checkLength
  refine xZ.adv (me := xm284) hP_284 2 (pc' := 2) (lv' := [(0, .int (yw v0)), (1, .int (yw v1))]) (st' := [.int (yw v0), .int (yw v1)]) rfl ?_
  refine xZ.jc_ge (me := xm284) hP_284 rfl (fun h1 => ?_) (fun h1 => ?_)
  · skip
    exact xZ.retu (me := xm284) hP_284 rfl rfl
  · skip
    exact xZ.no
def f_Arrays_copyOfRangeByte (O : Nat → Option va_E) (f : Nat) (v0 : Nat) (v1 : Int) (v2 : Int) (M : xM) : Option (Nat × xM) :=
  xcl (f_Arrays_checkLength O f v1 v2 M) fun _ M1 =>
  xcl (nAJ M1 3 (v2 - v1)) fun x2 M2 =>
  (aJN O M2 v0).bind fun x3 =>
  xcl (f_Math_min O f (x3 - v1) (v2 - v1) M2) fun x4 M3 =>
  (cpJ O M3 v0 v1 x2 0 x4).bind fun M4 =>
  some (x2, M4)
set_option maxRecDepth 20000 in
theorem k_f_Arrays_copyOfRangeByte (O : Nat → Option va_E) (f d : Nat) (v0 : Nat) (v1 : Int) (v2 : Int) (M : xM) : xZ oR O (d + 1) 283 0 [(0, .ref v0), (1, .int (yw v1)), (2, .int (yw v2))] [] M (f_Arrays_copyOfRangeByte O f v0 v1 v2 M) := by
  unfold f_Arrays_copyOfRangeByte
  refine xZ.adv (me := xm283) hP_283 2 (pc' := 2) (lv' := [(0, .ref v0), (1, .int (yw v1)), (2, .int (yw v2))]) (st' := [.int (yw v2), .int (yw v1)]) rfl ?_
  refine xZ.calls (κ := oU) (av := [.int (yw v1), .int (yw v2)]) (rest := []) (st' := fun _ => []) (me := xm283) hP_283 rfl rfl rfl (Nat.le_of_ble_eq_true rfl) (by decide) hP_284 (Nat.le_of_ble_eq_true rfl) (fun _ => rfl) (k_f_Arrays_checkLength O f (d + 0) v1 v2 M) (fun _ M1 => ?_)
  refine xZ.adv (me := xm283) hP_283 5 (pc' := 10) (lv' := [(3, .int ((yw v2) - (yw v1))), (0, .ref v0), (1, .int (yw v1)), (2, .int (yw v2))]) (st' := [.int ((yw v2) - (yw v1))]) rfl ?_
  refine xZ.eqs (lv2 := [(3, .int (yw (v2 - v1))), (0, .ref v0), (1, .int (yw v1)), (2, .int (yw v2))]) (st2 := [.int (yw (v2 - v1))]) (by simp only [yl_lit, yL_lit, yw_add, yw_sub, yw_mul, yw_neg, yl_add, yl_sub, yl_mul, cj_and, cj_or, cj_xor, cj_shl, cj_shr, cj_ushr, cj_div, cj_i2c, cj_i2b, cj_dc, ck_and, ck_or, ck_xor, ck_shl, ck_shr, ck_ushr, ck_i2l, ck_l2i, ck_cmp]) (by simp only [yl_lit, yL_lit, yw_add, yw_sub, yw_mul, yw_neg, yl_add, yl_sub, yl_mul, cj_and, cj_or, cj_xor, cj_shl, cj_shr, cj_ushr, cj_div, cj_i2c, cj_i2b, cj_dc, ck_and, ck_or, ck_xor, ck_shl, ck_shr, ck_ushr, ck_i2l, ck_l2i, ck_cmp]) ?_
  refine xZ.k_nAJ (me := xm283) hP_283 rfl rfl (by decide) (fun x2 M2 => ?_)
  refine xZ.adv (me := xm283) hP_283 6 (pc' := 20) (lv' := [(4, .ref x2), (3, .int (yw (v2 - v1))), (0, .ref v0), (1, .int (yw v1)), (2, .int (yw v2))]) (st' := [.ref v0, .int (0 : Int32), .ref x2, .int (yw v1), .ref v0]) rfl ?_
  refine xZ.eqs (lv2 := [(4, .ref x2), (3, .int (yw (v2 - v1))), (0, .ref v0), (1, .int (yw v1)), (2, .int (yw v2))]) (st2 := [.ref v0, .int (yw 0), .ref x2, .int (yw v1), .ref v0]) rfl (by simp only [yl_lit, yL_lit, yw_add, yw_sub, yw_mul, yw_neg, yl_add, yl_sub, yl_mul, cj_and, cj_or, cj_xor, cj_shl, cj_shr, cj_ushr, cj_div, cj_i2c, cj_i2b, cj_dc, ck_and, ck_or, ck_xor, ck_shl, ck_shr, ck_ushr, ck_i2l, ck_l2i, ck_cmp]) ?_
  refine xZ.k_aJN (me := xm283) hP_283 rfl (fun x3 => ?_)
  refine xZ.adv (me := xm283) hP_283 3 (pc' := 24) (lv' := [(4, .ref x2), (3, .int (yw (v2 - v1))), (0, .ref v0), (1, .int (yw v1)), (2, .int (yw v2))]) (st' := [.int (yw (v2 - v1)), .int ((yw x3) - (yw v1)), .int (yw 0), .ref x2, .int (yw v1), .ref v0]) rfl ?_
  refine xZ.eqs (lv2 := [(4, .ref x2), (3, .int (yw (v2 - v1))), (0, .ref v0), (1, .int (yw v1)), (2, .int (yw v2))]) (st2 := [.int (yw (v2 - v1)), .int (yw (x3 - v1)), .int (yw 0), .ref x2, .int (yw v1), .ref v0]) rfl (by simp only [yl_lit, yL_lit, yw_add, yw_sub, yw_mul, yw_neg, yl_add, yl_sub, yl_mul, cj_and, cj_or, cj_xor, cj_shl, cj_shr, cj_ushr, cj_div, cj_i2c, cj_i2b, cj_dc, ck_and, ck_or, ck_xor, ck_shl, ck_shr, ck_ushr, ck_i2l, ck_l2i, ck_cmp]) ?_
  refine xZ.calls (κ := oJ) (av := [.int (yw (x3 - v1)), .int (yw (v2 - v1))]) (rest := [.int (yw 0), .ref x2, .int (yw v1), .ref v0]) (st' := fun x4 => [.int (yw x4), .int (yw 0), .ref x2, .int (yw v1), .ref v0]) (me := xm283) hP_283 rfl rfl rfl (Nat.le_of_ble_eq_true rfl) (by decide) hP_248 (Nat.le_of_ble_eq_true rfl) (fun _ => rfl) (k_f_Math_min O f (d + 0) (x3 - v1) (v2 - v1) M2) (fun x4 M3 => ?_)
  refine xZ.k_cpJ (me := xm283) hP_283 rfl (Nat.le_of_ble_eq_true rfl) (fun M4 => ?_)
  refine xZ.adv (me := xm283) hP_283 1 (pc' := 32) (lv' := [(4, .ref x2), (3, .int (yw (v2 - v1))), (0, .ref v0), (1, .int (yw v1)), (2, .int (yw v2))]) (st' := [.ref x2]) rfl ?_
  exact xZ.retr (me := xm283) hP_283 rfl rfl rfl
def f_Arrays_copyOfRange_10 (O : Nat → Option va_E) (f : Nat) (v0 : Nat) (v1 : Int) (v2 : Int) (M : xM) : Option (Nat × xM) :=
  xcl (f_Arrays_copyOfRangeByte O f v0 v1 v2 M) fun x1 M1 =>
  some (x1, M1)
set_option maxRecDepth 20000 in
theorem k_f_Arrays_copyOfRange_10 (O : Nat → Option va_E) (f d : Nat) (v0 : Nat) (v1 : Int) (v2 : Int) (M : xM) : xZ oR O (d + 2) 282 10 [(0, .ref v0), (1, .int (yw v1)), (2, .int (yw v2))] [] M (f_Arrays_copyOfRange_10 O f v0 v1 v2 M) := by
  unfold f_Arrays_copyOfRange_10
  refine xZ.adv (me := xm282) hP_282 3 (pc' := 13) (lv' := [(0, .ref v0), (1, .int (yw v1)), (2, .int (yw v2))]) (st' := [.int (yw v2), .int (yw v1), .ref v0]) rfl ?_
  refine xZ.calls (κ := oR) (av := [.ref v0, .int (yw v1), .int (yw v2)]) (rest := []) (st' := fun x1 => [.ref x1]) (me := xm282) hP_282 rfl rfl rfl (Nat.le_of_ble_eq_true rfl) (by decide) hP_283 (Nat.le_of_ble_eq_true rfl) (fun _ => rfl) (k_f_Arrays_copyOfRangeByte O f (d + 0) v0 v1 v2 M) (fun x1 M1 => ?_)
  exact xZ.retr (me := xm282) hP_282 rfl rfl rfl
def f_Arrays_copyOfRange (O : Nat → Option va_E) (f : Nat) (v0 : Nat) (v1 : Int) (v2 : Int) (M : xM) : Option (Nat × xM) :=
  if yw v1 = yw 0 then (
    (aJN O M v0).bind fun x1 =>
    if yw v2 = yw x1 then (
      xcl (clX M v0) fun x2 M1 =>
      (ckB M1 x2).bind fun _ =>
      some (x2, M1)
    ) else
    f_Arrays_copyOfRange_10 O f v0 v1 v2 M
  ) else
  f_Arrays_copyOfRange_10 O f v0 v1 v2 M
set_option maxRecDepth 20000 in
theorem k_f_Arrays_copyOfRange (O : Nat → Option va_E) (f d : Nat) (v0 : Nat) (v1 : Int) (v2 : Int) (M : xM) : xZ oR O (d + 2) 282 0 [(0, .ref v0), (1, .int (yw v1)), (2, .int (yw v2))] [] M (f_Arrays_copyOfRange O f v0 v1 v2 M) := by
  unfold f_Arrays_copyOfRange
  refine xZ.adv (me := xm282) hP_282 1 (pc' := 1) (lv' := [(0, .ref v0), (1, .int (yw v1)), (2, .int (yw v2))]) (st' := [.int (yw v1)]) rfl ?_
  refine xZ.jf_ne (me := xm282) hP_282 rfl (fun h1 => ?_) (fun h1 => ?_)
  · skip
    refine xZ.adv (me := xm282) hP_282 2 (pc' := 6) (lv' := [(0, .ref v0), (1, .int (yw v1)), (2, .int (yw v2))]) (st' := [.ref v0, .int (yw v2)]) rfl ?_
    refine xZ.k_aJN (me := xm282) hP_282 rfl (fun x1 => ?_)
    refine xZ.jc_eq (me := xm282) hP_282 rfl (fun h2 => ?_) (fun h2 => ?_)
    · skip
      refine xZ.adv (me := xm282) hP_282 1 (pc' := 18) (lv' := [(0, .ref v0), (1, .int (yw v1)), (2, .int (yw v2))]) (st' := [.ref v0]) rfl ?_
      refine xZ.k_clX (me := xm282) hP_282 rfl (Nat.le_of_ble_eq_true rfl) (fun x2 M1 => ?_)
      refine xZ.k_ckB (me := xm282) hP_282 rfl (fun _ => ?_)
      exact xZ.retr (me := xm282) hP_282 rfl rfl rfl
    · skip
      exact (k_f_Arrays_copyOfRange_10 O f d v0 v1 v2 M)
  · skip
    exact (k_f_Arrays_copyOfRange_10 O f d v0 v1 v2 M)
def f_String_ctor_278_79 (O : Nat → Option va_E) (f : Nat) (v0 : Nat) (v3 : Nat) (v4 : Int) (M : xM) : Option (Unit × xM) :=
  (pJ M v0 0 1 1).bind fun M1 =>
  xcl (f_Arrays_copyOfRange O f v3 0 (jshl v4 (jand 1 31)) M1) fun x1 M2 =>
  (pR M2 v0 0 0 (some x1)).bind fun M3 =>
  some ((), M3)
set_option maxRecDepth 20000 in
theorem k_f_String_ctor_278_79 (O : Nat → Option va_E) (f d : Nat) (v0 : Nat) (v3 : Nat) (v4 : Int) (M : xM) : xZ oU O (d + 3) 278 79 [(0, .ref v0), (3, .ref v3), (4, .int (yw v4))] [] M (f_String_ctor_278_79 O f v0 v3 v4 M) := by
  unfold f_String_ctor_278_79
  refine xZ.adv (me := xm278) hP_278 2 (pc' := 81) (lv' := [(0, .ref v0), (3, .ref v3), (4, .int (yw v4))]) (st' := [.int (1 : Int32), .ref v0]) rfl ?_
  refine xZ.eqs (lv2 := [(0, .ref v0), (3, .ref v3), (4, .int (yw v4))]) (st2 := [.int (yw 1), .ref v0]) rfl (by simp only [yl_lit, yL_lit, yw_add, yw_sub, yw_mul, yw_neg, yl_add, yl_sub, yl_mul, cj_and, cj_or, cj_xor, cj_shl, cj_shr, cj_ushr, cj_div, cj_i2c, cj_i2b, cj_dc, ck_and, ck_or, ck_xor, ck_shl, ck_shr, ck_ushr, ck_i2l, ck_l2i, ck_cmp]) ?_
  refine xZ.k_pJ (me := xm278) hP_278 rfl (fun M1 => ?_)
  refine xZ.adv (me := xm278) hP_278 6 (pc' := 91) (lv' := [(0, .ref v0), (3, .ref v3), (4, .int (yw v4))]) (st' := [.int ((yw v4) <<< ((1 : Int32) &&& 31)), .int (0 : Int32), .ref v3, .ref v0]) rfl ?_
  refine xZ.eqs (lv2 := [(0, .ref v0), (3, .ref v3), (4, .int (yw v4))]) (st2 := [.int (yw (jshl v4 (jand 1 31))), .int (yw 0), .ref v3, .ref v0]) rfl (by simp only [yl_lit, yL_lit, yw_add, yw_sub, yw_mul, yw_neg, yl_add, yl_sub, yl_mul, cj_and, cj_or, cj_xor, cj_shl, cj_shr, cj_ushr, cj_div, cj_i2c, cj_i2b, cj_dc, ck_and, ck_or, ck_xor, ck_shl, ck_shr, ck_ushr, ck_i2l, ck_l2i, ck_cmp]) ?_
  refine xZ.calls (κ := oR) (av := [.ref v3, .int (yw 0), .int (yw (jshl v4 (jand 1 31)))]) (rest := [.ref v0]) (st' := fun x1 => [.ref x1, .ref v0]) (me := xm278) hP_278 rfl rfl rfl (Nat.le_of_ble_eq_true rfl) (by decide) hP_282 (Nat.le_of_ble_eq_true rfl) (fun _ => rfl) (k_f_Arrays_copyOfRange O f (d + 0) v3 0 (jshl v4 (jand 1 31)) M1) (fun x1 M2 => ?_)
  refine xZ.k_pR (x := (some x1)) (me := xm278) hP_278 rfl (fun M3 => ?_)
  exact xZ.retu (me := xm278) hP_278 rfl rfl
def f_String_ctor_278 (O : Nat → Option va_E) (f : Nat) (v0 : Nat) (v1 : Nat) (M : xM) : Option (Unit × xM) :=
  (isO O M v1 1).bind fun _ =>
  xcl (f_AbstractStringBuilder_getValue O f v1 M) fun x1 M1 =>
  (isO O M1 v1 1).bind fun _ =>
  xcl (f_StringBuilder_length O f v1 M1) fun x2 M2 =>
  (isO O M2 v1 1).bind fun _ =>
  xcl (f_AbstractStringBuilder_isLatin1 O f v1 M2) fun x3 M3 =>
  if yw x3 = yw 0 then (
    if yw 1 = yw 0 then (
      f_String_ctor_278_79 O f v0 x1 x2 M3
    ) else
    (gJ O M3 v1 1 2).bind fun x4 =>
    if yw x4 = yw 0 then (
      f_String_ctor_278_79 O f v0 x1 x2 M3
    ) else
    none
  ) else
  (pJ M3 v0 0 1 0).bind fun M4 =>
  xcl (f_Arrays_copyOfRange O f x1 0 x2 M4) fun x5 M5 =>
  (pR M5 v0 0 0 (some x5)).bind fun M6 =>
  some ((), M6)
set_option maxRecDepth 20000 in
theorem k_f_String_ctor_278 (O : Nat → Option va_E) (f d : Nat) (v0 : Nat) (v1 : Nat) (M : xM) : xZ oU O (d + 3) 278 0 [(0, .ref v0), (1, .ref v1), (2, .null)] [] M (f_String_ctor_278 O f v0 v1 M) := by
  unfold f_String_ctor_278
  refine xZ.adv (me := xm278) hP_278 1 (pc' := 1) (lv' := [(0, .ref v0), (1, .ref v1), (2, .null)]) (st' := [.ref v0]) rfl ?_
  refine xZ.obj (me := xm278) hP_278 rfl (Nat.le_of_ble_eq_true rfl) ?_
  refine xZ.adv (me := xm278) hP_278 1 (pc' := 5) (lv' := [(0, .ref v0), (1, .ref v1), (2, .null)]) (st' := [.ref v1]) rfl ?_
  refine xZ.callv (κ := oR) (av := []) (rest := []) (st' := fun x1 => [.ref x1]) (k0 := v1) (me := xm278) hP_278 rfl (Or.inr (Or.inl rfl)) ⟨rfl, by decide⟩ rfl rfl (Nat.le_of_ble_eq_true rfl) (by decide) hP_279 (Nat.le_of_ble_eq_true rfl) (fun _ => rfl) (k_f_AbstractStringBuilder_getValue O f (d + 2) v1 M) (fun x1 M1 => ?_)
  refine xZ.adv (me := xm278) hP_278 2 (pc' := 10) (lv' := [(3, .ref x1), (0, .ref v0), (1, .ref v1), (2, .null)]) (st' := [.ref v1]) rfl ?_
  refine xZ.callv (κ := oJ) (av := []) (rest := []) (st' := fun x2 => [.int (yw x2)]) (k0 := v1) (me := xm278) hP_278 rfl (Or.inr (Or.inr rfl)) ⟨rfl, by decide⟩ rfl rfl (Nat.le_of_ble_eq_true rfl) (by decide) hP_280 (Nat.le_of_ble_eq_true rfl) (fun _ => rfl) (k_f_StringBuilder_length O f (d + 1) v1 M1) (fun x2 M2 => ?_)
  refine xZ.adv (me := xm278) hP_278 2 (pc' := 16) (lv' := [(4, .int (yw x2)), (3, .ref x1), (0, .ref v0), (1, .ref v1), (2, .null)]) (st' := [.ref v1]) rfl ?_
  refine xZ.callv (κ := oJ) (av := []) (rest := []) (st' := fun x3 => [.int (yw x3)]) (k0 := v1) (me := xm278) hP_278 rfl (Or.inr (Or.inl rfl)) ⟨rfl, by decide⟩ rfl rfl (Nat.le_of_ble_eq_true rfl) (by decide) hP_264 (Nat.le_of_ble_eq_true rfl) (fun _ => rfl) (k_f_AbstractStringBuilder_isLatin1 O f (d + 2) v1 M2) (fun x3 M3 => ?_)
  refine xZ.jf_eq (me := xm278) hP_278 rfl (fun h1 => ?_) (fun h1 => ?_)
  · skip
    refine xZ.adv (me := xm278) hP_278 1 (pc' := 44) (lv' := [(4, .int (yw x2)), (3, .ref x1), (0, .ref v0), (1, .ref v1), (2, .null)]) (st' := [.int (1 : Int32)]) rfl ?_
    refine xZ.eqs (lv2 := [(4, .int (yw x2)), (3, .ref x1), (0, .ref v0), (1, .ref v1), (2, .null)]) (st2 := [.int (yw 1)]) rfl (by simp only [yl_lit, yL_lit, yw_add, yw_sub, yw_mul, yw_neg, yl_add, yl_sub, yl_mul, cj_and, cj_or, cj_xor, cj_shl, cj_shr, cj_ushr, cj_div, cj_i2c, cj_i2b, cj_dc, ck_and, ck_or, ck_xor, ck_shl, ck_shr, ck_ushr, ck_i2l, ck_l2i, ck_cmp]) ?_
    refine xZ.jf_eq (me := xm278) hP_278 rfl (fun h2 => ?_) (fun h2 => ?_)
    · skip
      exact xZ.sub (xsc (.tail _ (.tail _ (.head _))) (xsc (.tail _ (.head _)) (xsc (.head _) xsn))) (show ([4, 3, 0, 1, 2] : List Nat).Nodup from by decide) (k_f_String_ctor_278_79 O f d v0 x1 x2 M3)
    · skip
      refine xZ.adv (me := xm278) hP_278 1 (pc' := 48) (lv' := [(4, .int (yw x2)), (3, .ref x1), (0, .ref v0), (1, .ref v1), (2, .null)]) (st' := [.ref v1]) rfl ?_
      refine xZ.k_gJ (me := xm278) hP_278 rfl (fun x4 => ?_)
      refine xZ.jf_eq (me := xm278) hP_278 rfl (fun h3 => ?_) (fun h3 => ?_)
      · skip
        exact xZ.sub (xsc (.tail _ (.tail _ (.head _))) (xsc (.tail _ (.head _)) (xsc (.head _) xsn))) (show ([4, 3, 0, 1, 2] : List Nat).Nodup from by decide) (k_f_String_ctor_278_79 O f d v0 x1 x2 M3)
      · skip
        refine xZ.adv (me := xm278) hP_278 4 (pc' := 59) (lv' := [(4, .int (yw x2)), (3, .ref x1), (0, .ref v0), (1, .ref v1), (2, .null)]) (st' := [.int (yw x2), .int (0 : Int32), .ref x1, .ref v0]) rfl ?_
        refine xZ.eqs (lv2 := [(4, .int (yw x2)), (3, .ref x1), (0, .ref v0), (1, .ref v1), (2, .null)]) (st2 := [.int (yw x2), .int (yw 0), .ref x1, .ref v0]) rfl (by simp only [yl_lit, yL_lit, yw_add, yw_sub, yw_mul, yw_neg, yl_add, yl_sub, yl_mul, cj_and, cj_or, cj_xor, cj_shl, cj_shr, cj_ushr, cj_div, cj_i2c, cj_i2b, cj_dc, ck_and, ck_or, ck_xor, ck_shl, ck_shr, ck_ushr, ck_i2l, ck_l2i, ck_cmp]) ?_
        exact xZ.no
  · skip
    refine xZ.adv (me := xm278) hP_278 2 (pc' := 24) (lv' := [(4, .int (yw x2)), (3, .ref x1), (0, .ref v0), (1, .ref v1), (2, .null)]) (st' := [.int (0 : Int32), .ref v0]) rfl ?_
    refine xZ.eqs (lv2 := [(4, .int (yw x2)), (3, .ref x1), (0, .ref v0), (1, .ref v1), (2, .null)]) (st2 := [.int (yw 0), .ref v0]) rfl (by simp only [yl_lit, yL_lit, yw_add, yw_sub, yw_mul, yw_neg, yl_add, yl_sub, yl_mul, cj_and, cj_or, cj_xor, cj_shl, cj_shr, cj_ushr, cj_div, cj_i2c, cj_i2b, cj_dc, ck_and, ck_or, ck_xor, ck_shl, ck_shr, ck_ushr, ck_i2l, ck_l2i, ck_cmp]) ?_
    refine xZ.k_pJ (me := xm278) hP_278 rfl (fun M4 => ?_)
    refine xZ.adv (me := xm278) hP_278 4 (pc' := 32) (lv' := [(4, .int (yw x2)), (3, .ref x1), (0, .ref v0), (1, .ref v1), (2, .null)]) (st' := [.int (yw x2), .int (0 : Int32), .ref x1, .ref v0]) rfl ?_
    refine xZ.eqs (lv2 := [(4, .int (yw x2)), (3, .ref x1), (0, .ref v0), (1, .ref v1), (2, .null)]) (st2 := [.int (yw x2), .int (yw 0), .ref x1, .ref v0]) rfl (by simp only [yl_lit, yL_lit, yw_add, yw_sub, yw_mul, yw_neg, yl_add, yl_sub, yl_mul, cj_and, cj_or, cj_xor, cj_shl, cj_shr, cj_ushr, cj_div, cj_i2c, cj_i2b, cj_dc, ck_and, ck_or, ck_xor, ck_shl, ck_shr, ck_ushr, ck_i2l, ck_l2i, ck_cmp]) ?_
    refine xZ.calls (κ := oR) (av := [.ref x1, .int (yw 0), .int (yw x2)]) (rest := [.ref v0]) (st' := fun x5 => [.ref x5, .ref v0]) (me := xm278) hP_278 rfl rfl rfl (Nat.le_of_ble_eq_true rfl) (by decide) hP_282 (Nat.le_of_ble_eq_true rfl) (fun _ => rfl) (k_f_Arrays_copyOfRange O f (d + 0) x1 0 x2 M4) (fun x5 M5 => ?_)
    refine xZ.k_pR (x := (some x5)) (me := xm278) hP_278 rfl (fun M6 => ?_)
    refine xZ.adv (me := xm278) hP_278 1 (pc' := 97) (lv' := [(4, .int (yw x2)), (3, .ref x1), (0, .ref v0), (1, .ref v1), (2, .null)]) (st' := []) rfl ?_
    exact xZ.retu (me := xm278) hP_278 rfl rfl
def f_String_ctor_277 (O : Nat → Option va_E) (f : Nat) (v0 : Nat) (v1 : Nat) (M : xM) : Option (Unit × xM) :=
  xcl (f_String_ctor_278 O f v0 v1 M) fun _ M1 =>
  some ((), M1)
set_option maxRecDepth 20000 in
theorem k_f_String_ctor_277 (O : Nat → Option va_E) (f d : Nat) (v0 : Nat) (v1 : Nat) (M : xM) : xZ oU O (d + 4) 277 0 [(0, .ref v0), (1, .ref v1)] [] M (f_String_ctor_277 O f v0 v1 M) := by
  unfold f_String_ctor_277
  refine xZ.adv (me := xm277) hP_277 3 (pc' := 3) (lv' := [(0, .ref v0), (1, .ref v1)]) (st' := [.null, .ref v1, .ref v0]) rfl ?_
  refine xZ.calli (κ := oU) (av := [.ref v1, .null]) (rest := []) (st' := fun _ => []) (k0 := v0) (me := xm277) hP_277 rfl (Or.inl rfl) rfl rfl (Nat.le_of_ble_eq_true rfl) (by decide) hP_278 (Nat.le_of_ble_eq_true rfl) (fun _ => rfl) (k_f_String_ctor_278 O f (d + 0) v0 v1 M) (fun _ M1 => ?_)
  exact xZ.retu (me := xm277) hP_277 rfl rfl
def f_StringBuilder_toString (O : Nat → Option va_E) (f : Nat) (v0 : Nat) (M : xM) : Option (Nat × xM) :=
  xcl (nO M 0) fun x1 M1 =>
  xcl (f_String_ctor_277 O f x1 v0 M1) fun _ M2 =>
  some (x1, M2)
set_option maxRecDepth 20000 in
theorem k_f_StringBuilder_toString (O : Nat → Option va_E) (f d : Nat) (v0 : Nat) (M : xM) : xZ oR O (d + 5) 276 0 [(0, .ref v0)] [] M (f_StringBuilder_toString O f v0 M) := by
  unfold f_StringBuilder_toString
  refine xZ.k_nO (me := xm276) hP_276 rfl rfl (fun x1 M1 => ?_)
  refine xZ.adv (me := xm276) hP_276 2 (pc' := 5) (lv' := [(0, .ref v0)]) (st' := [.ref v0, .ref x1, .ref x1]) rfl ?_
  refine xZ.calli (κ := oU) (av := [.ref v0]) (rest := [.ref x1]) (st' := fun _ => [.ref x1]) (k0 := x1) (me := xm276) hP_276 rfl (Or.inl rfl) rfl rfl (Nat.le_of_ble_eq_true rfl) (by decide) hP_277 (Nat.le_of_ble_eq_true rfl) (fun _ => rfl) (k_f_String_ctor_277 O f (d + 0) x1 v0 M1) (fun _ M2 => ?_)
  exact xZ.retr (me := xm276) hP_276 rfl rfl rfl
def f_Integer_stringSize_16 (O : Nat → Option va_E) (f : Nat) : Nat → Int → Int → Int → Int → xM → Option (Int × xM)
  | 0, _, _, _, _, _ => none
  | n + 1, v0, v1, v2, v3, M =>
    if yw 10 ≤ yw v3 then (
      some ((10 + v1), M)
    ) else
    if yw v0 ≤ yw v2 then (
      f_Integer_stringSize_16 O f n v0 v1 (10 * v2) (v3 + 1) M
    ) else
    some ((v3 + v1), M)
set_option maxRecDepth 20000 in
theorem k_f_Integer_stringSize_16 (O : Nat → Option va_E) (f d : Nat) : ∀ (n : Nat) (v0 : Int) (v1 : Int) (v2 : Int) (v3 : Int) (M : xM), xZ oJ O (d + 0) 287 16 [(0, .int (yw v0)), (1, .int (yw v1)), (2, .int (yw v2)), (3, .int (yw v3))] [] M (f_Integer_stringSize_16 O f n v0 v1 v2 v3 M) := by
  intro n
  induction n with
  | zero =>
    intro v0 v1 v2 v3 M
    exact xZ.no
  | succ n ih =>
    intro v0 v1 v2 v3 M
    unfold f_Integer_stringSize_16
    refine xZ.adv (me := xm287) hP_287 2 (pc' := 19) (lv' := [(0, .int (yw v0)), (1, .int (yw v1)), (2, .int (yw v2)), (3, .int (yw v3))]) (st' := [.int (10 : Int32), .int (yw v3)]) rfl ?_
    refine xZ.eqs (lv2 := [(0, .int (yw v0)), (1, .int (yw v1)), (2, .int (yw v2)), (3, .int (yw v3))]) (st2 := [.int (yw 10), .int (yw v3)]) rfl (by simp only [yl_lit, yL_lit, yw_add, yw_sub, yw_mul, yw_neg, yl_add, yl_sub, yl_mul, cj_and, cj_or, cj_xor, cj_shl, cj_shr, cj_ushr, cj_div, cj_i2c, cj_i2b, cj_dc, ck_and, ck_or, ck_xor, ck_shl, ck_shr, ck_ushr, ck_i2l, ck_l2i, ck_cmp]) ?_
    refine xZ.jc_ge (me := xm287) hP_287 rfl (fun h1 => ?_) (fun h1 => ?_)
    · skip
      refine xZ.adv (me := xm287) hP_287 3 (pc' := 46) (lv' := [(0, .int (yw v0)), (1, .int (yw v1)), (2, .int (yw v2)), (3, .int (yw v3))]) (st' := [.int ((10 : Int32) + (yw v1))]) rfl ?_
      refine xZ.eqs (lv2 := [(0, .int (yw v0)), (1, .int (yw v1)), (2, .int (yw v2)), (3, .int (yw v3))]) (st2 := [.int (yw (10 + v1))]) rfl (by simp only [yl_lit, yL_lit, yw_add, yw_sub, yw_mul, yw_neg, yl_add, yl_sub, yl_mul, cj_and, cj_or, cj_xor, cj_shl, cj_shr, cj_ushr, cj_div, cj_i2c, cj_i2b, cj_dc, ck_and, ck_or, ck_xor, ck_shl, ck_shr, ck_ushr, ck_i2l, ck_l2i, ck_cmp]) ?_
      exact xZ.jreti (me := xm287) hP_287 rfl rfl
    · skip
      refine xZ.adv (me := xm287) hP_287 2 (pc' := 24) (lv' := [(0, .int (yw v0)), (1, .int (yw v1)), (2, .int (yw v2)), (3, .int (yw v3))]) (st' := [.int (yw v2), .int (yw v0)]) rfl ?_
      refine xZ.jc_le (me := xm287) hP_287 rfl (fun h2 => ?_) (fun h2 => ?_)
      · skip
        refine xZ.adv (me := xm287) hP_287 6 (pc' := 16) (lv' := [(3, .int ((yw v3) + (1 : Int32))), (2, .int ((10 : Int32) * (yw v2))), (0, .int (yw v0)), (1, .int (yw v1))]) (st' := []) rfl ?_
        refine xZ.eqs (lv2 := [(3, .int (yw (v3 + 1))), (2, .int (yw (10 * v2))), (0, .int (yw v0)), (1, .int (yw v1))]) (st2 := []) (by simp only [yl_lit, yL_lit, yw_add, yw_sub, yw_mul, yw_neg, yl_add, yl_sub, yl_mul, cj_and, cj_or, cj_xor, cj_shl, cj_shr, cj_ushr, cj_div, cj_i2c, cj_i2b, cj_dc, ck_and, ck_or, ck_xor, ck_shl, ck_shr, ck_ushr, ck_i2l, ck_l2i, ck_cmp]) rfl ?_
        exact xZ.sub (xsc (.tail _ (.tail _ (.head _))) (xsc (.tail _ (.tail _ (.tail _ (.head _)))) (xsc (.tail _ (.head _)) (xsc (.head _) xsn)))) (show ([3, 2, 0, 1] : List Nat).Nodup from by decide) (ih v0 v1 (10 * v2) (v3 + 1) M)
      · skip
        refine xZ.adv (me := xm287) hP_287 3 (pc' := 30) (lv' := [(0, .int (yw v0)), (1, .int (yw v1)), (2, .int (yw v2)), (3, .int (yw v3))]) (st' := [.int ((yw v3) + (yw v1))]) rfl ?_
        refine xZ.eqs (lv2 := [(0, .int (yw v0)), (1, .int (yw v1)), (2, .int (yw v2)), (3, .int (yw v3))]) (st2 := [.int (yw (v3 + v1))]) rfl (by simp only [yl_lit, yL_lit, yw_add, yw_sub, yw_mul, yw_neg, yl_add, yl_sub, yl_mul, cj_and, cj_or, cj_xor, cj_shl, cj_shr, cj_ushr, cj_div, cj_i2c, cj_i2b, cj_dc, ck_and, ck_or, ck_xor, ck_shl, ck_shr, ck_ushr, ck_i2l, ck_l2i, ck_cmp]) ?_
        exact xZ.jreti (me := xm287) hP_287 rfl rfl
def f_Integer_stringSize_11 (O : Nat → Option va_E) (f : Nat) (v0 : Int) (v1 : Int) (M : xM) : Option (Int × xM) :=
  f_Integer_stringSize_16 O f f v0 v1 (-10) 1 M
set_option maxRecDepth 20000 in
theorem k_f_Integer_stringSize_11 (O : Nat → Option va_E) (f d : Nat) (v0 : Int) (v1 : Int) (M : xM) : xZ oJ O (d + 0) 287 11 [(0, .int (yw v0)), (1, .int (yw v1))] [] M (f_Integer_stringSize_11 O f v0 v1 M) := by
  unfold f_Integer_stringSize_11
  refine xZ.adv (me := xm287) hP_287 4 (pc' := 16) (lv' := [(3, .int (1 : Int32)), (2, .int (-10 : Int32)), (0, .int (yw v0)), (1, .int (yw v1))]) (st' := []) rfl ?_
  refine xZ.eqs (lv2 := [(3, .int (yw 1)), (2, .int (yw (-10))), (0, .int (yw v0)), (1, .int (yw v1))]) (st2 := []) (by simp only [yl_lit, yL_lit, yw_add, yw_sub, yw_mul, yw_neg, yl_add, yl_sub, yl_mul, cj_and, cj_or, cj_xor, cj_shl, cj_shr, cj_ushr, cj_div, cj_i2c, cj_i2b, cj_dc, ck_and, ck_or, ck_xor, ck_shl, ck_shr, ck_ushr, ck_i2l, ck_l2i, ck_cmp]) rfl ?_
  exact xZ.sub (xsc (.tail _ (.tail _ (.head _))) (xsc (.tail _ (.tail _ (.tail _ (.head _)))) (xsc (.tail _ (.head _)) (xsc (.head _) xsn)))) (show ([3, 2, 0, 1] : List Nat).Nodup from by decide) (k_f_Integer_stringSize_16 O f d f v0 v1 (-10) 1 M)
def f_Integer_stringSize (O : Nat → Option va_E) (f : Nat) (v0 : Int) (M : xM) : Option (Int × xM) :=
  if yw v0 < yw 0 then (
    f_Integer_stringSize_11 O f v0 1 M
  ) else
  f_Integer_stringSize_11 O f (-v0) 0 M
set_option maxRecDepth 20000 in
theorem k_f_Integer_stringSize (O : Nat → Option va_E) (f d : Nat) (v0 : Int) (M : xM) : xZ oJ O (d + 0) 287 0 [(0, .int (yw v0))] [] M (f_Integer_stringSize O f v0 M) := by
  unfold f_Integer_stringSize
  refine xZ.adv (me := xm287) hP_287 3 (pc' := 3) (lv' := [(1, .int (1 : Int32)), (0, .int (yw v0))]) (st' := [.int (yw v0)]) rfl ?_
  refine xZ.eqs (lv2 := [(1, .int (yw 1)), (0, .int (yw v0))]) (st2 := [.int (yw v0)]) (by simp only [yl_lit, yL_lit, yw_add, yw_sub, yw_mul, yw_neg, yl_add, yl_sub, yl_mul, cj_and, cj_or, cj_xor, cj_shl, cj_shr, cj_ushr, cj_div, cj_i2c, cj_i2b, cj_dc, ck_and, ck_or, ck_xor, ck_shl, ck_shr, ck_ushr, ck_i2l, ck_l2i, ck_cmp]) rfl ?_
  refine xZ.jf_lt (me := xm287) hP_287 rfl (fun h1 => ?_) (fun h1 => ?_)
  · skip
    exact xZ.sub (xsc (.tail _ (.head _)) (xsc (.head _) xsn)) (show ([1, 0] : List Nat).Nodup from by decide) (k_f_Integer_stringSize_11 O f d v0 1 M)
  · skip
    refine xZ.adv (me := xm287) hP_287 5 (pc' := 11) (lv' := [(0, .int (-(yw v0))), (1, .int (0 : Int32))]) (st' := []) rfl ?_
    refine xZ.eqs (lv2 := [(0, .int (yw (-v0))), (1, .int (yw 0))]) (st2 := []) (by simp only [yl_lit, yL_lit, yw_add, yw_sub, yw_mul, yw_neg, yl_add, yl_sub, yl_mul, cj_and, cj_or, cj_xor, cj_shl, cj_shr, cj_ushr, cj_div, cj_i2c, cj_i2b, cj_dc, ck_and, ck_or, ck_xor, ck_shl, ck_shr, ck_ushr, ck_i2l, ck_l2i, ck_cmp]) rfl ?_
    exact (k_f_Integer_stringSize_11 O f d (-v0) 0 M)
def f_Integer_getChars_104 (O : Nat → Option va_E) (f : Nat) (v2 : Nat) (v5 : Int) (v6 : Int) (M : xM) : Option (Int × xM) :=
  if yw v6 = yw 0 then (
    some (v5, M)
  ) else
  (wJB M v2 (v5 + (-1)) 45).bind fun M1 =>
  some ((v5 + (-1)), M1)
set_option maxRecDepth 20000 in
theorem k_f_Integer_getChars_104 (O : Nat → Option va_E) (f d : Nat) (v2 : Nat) (v5 : Int) (v6 : Int) (M : xM) : xZ oJ O (d + 0) 288 104 [(2, .ref v2), (5, .int (yw v5)), (6, .int (yw v6))] [] M (f_Integer_getChars_104 O f v2 v5 v6 M) := by
  unfold f_Integer_getChars_104
  refine xZ.adv (me := xm288) hP_288 1 (pc' := 106) (lv' := [(2, .ref v2), (5, .int (yw v5)), (6, .int (yw v6))]) (st' := [.int (yw v6)]) rfl ?_
  refine xZ.jf_eq (me := xm288) hP_288 rfl (fun h1 => ?_) (fun h1 => ?_)
  · skip
    refine xZ.adv (me := xm288) hP_288 1 (pc' := 120) (lv' := [(2, .ref v2), (5, .int (yw v5)), (6, .int (yw v6))]) (st' := [.int (yw v5)]) rfl ?_
    exact xZ.jreti (me := xm288) hP_288 rfl rfl
  · skip
    refine xZ.adv (me := xm288) hP_288 4 (pc' := 117) (lv' := [(5, .int ((yw v5) + (-1 : Int32))), (2, .ref v2), (6, .int (yw v6))]) (st' := [.int (45 : Int32), .int ((yw v5) + (-1 : Int32)), .ref v2]) rfl ?_
    refine xZ.eqs (lv2 := [(5, .int (yw (v5 + (-1)))), (2, .ref v2), (6, .int (yw v6))]) (st2 := [.int (yw 45), .int (yw (v5 + (-1))), .ref v2]) (by simp only [yl_lit, yL_lit, yw_add, yw_sub, yw_mul, yw_neg, yl_add, yl_sub, yl_mul, cj_and, cj_or, cj_xor, cj_shl, cj_shr, cj_ushr, cj_div, cj_i2c, cj_i2b, cj_dc, ck_and, ck_or, ck_xor, ck_shl, ck_shr, ck_ushr, ck_i2l, ck_l2i, ck_cmp]) (by simp only [yl_lit, yL_lit, yw_add, yw_sub, yw_mul, yw_neg, yl_add, yl_sub, yl_mul, cj_and, cj_or, cj_xor, cj_shl, cj_shr, cj_ushr, cj_div, cj_i2c, cj_i2b, cj_dc, ck_and, ck_or, ck_xor, ck_shl, ck_shr, ck_ushr, ck_i2l, ck_l2i, ck_cmp]) ?_
    refine xZ.k_wJB (me := xm288) hP_288 rfl (fun M1 => ?_)
    refine xZ.adv (me := xm288) hP_288 1 (pc' := 120) (lv' := [(5, .int (yw (v5 + (-1)))), (2, .ref v2), (6, .int (yw v6))]) (st' := [.int (yw (v5 + (-1)))]) rfl ?_
    exact xZ.jreti (me := xm288) hP_288 rfl rfl
def f_Integer_getChars_22 (O : Nat → Option va_E) (f : Nat) : Nat → Int → Nat → Int → Int → xM → Option (Int × xM)
  | 0, _, _, _, _, _ => none
  | n + 1, v0, v2, v5, v6, M =>
    if yw (-100) < yw v0 then (
      (aJB O M 1000000003 (-v0)).bind fun x1 =>
      (wJB M v2 (v5 + (-1)) x1).bind fun M1 =>
      if yw (-9) ≤ yw v0 then (
        f_Integer_getChars_104 O f v2 (v5 + (-1)) v6 M1
      ) else
      (aJB O M1 1000000002 (-v0)).bind fun x2 =>
      (wJB M1 v2 ((v5 + (-1)) + (-1)) x2).bind fun M2 =>
      f_Integer_getChars_104 O f v2 ((v5 + (-1)) + (-1)) v6 M2
    ) else
    (aJB O M 1000000003 (((jdiv v0 100) * 100) - v0)).bind fun x3 =>
    (wJB M v2 (v5 + (-1)) x3).bind fun M3 =>
    (aJB O M3 1000000002 (((jdiv v0 100) * 100) - v0)).bind fun x4 =>
    (wJB M3 v2 ((v5 + (-1)) + (-1)) x4).bind fun M4 =>
    f_Integer_getChars_22 O f n (jdiv v0 100) v2 ((v5 + (-1)) + (-1)) v6 M4
set_option maxRecDepth 20000 in
theorem k_f_Integer_getChars_22 (O : Nat → Option va_E) (f d : Nat) : ∀ (n : Nat) (v0 : Int) (v2 : Nat) (v5 : Int) (v6 : Int) (M : xM), xZ oJ O (d + 0) 288 22 [(0, .int (yw v0)), (2, .ref v2), (5, .int (yw v5)), (6, .int (yw v6))] [] M (f_Integer_getChars_22 O f n v0 v2 v5 v6 M) := by
  intro n
  induction n with
  | zero =>
    intro v0 v2 v5 v6 M
    exact xZ.no
  | succ n ih =>
    intro v0 v2 v5 v6 M
    unfold f_Integer_getChars_22
    refine xZ.adv (me := xm288) hP_288 2 (pc' := 25) (lv' := [(0, .int (yw v0)), (2, .ref v2), (5, .int (yw v5)), (6, .int (yw v6))]) (st' := [.int (-100 : Int32), .int (yw v0)]) rfl ?_
    refine xZ.eqs (lv2 := [(0, .int (yw v0)), (2, .ref v2), (5, .int (yw v5)), (6, .int (yw v6))]) (st2 := [.int (yw (-100)), .int (yw v0)]) rfl (by simp only [yl_lit, yL_lit, yw_add, yw_sub, yw_mul, yw_neg, yl_add, yl_sub, yl_mul, cj_and, cj_or, cj_xor, cj_shl, cj_shr, cj_ushr, cj_div, cj_i2c, cj_i2b, cj_dc, ck_and, ck_or, ck_xor, ck_shl, ck_shr, ck_ushr, ck_i2l, ck_l2i, ck_cmp]) ?_
    refine xZ.jc_gt (me := xm288) hP_288 rfl (fun h1 => ?_) (fun h1 => ?_)
    · skip
      refine xZ.adv (me := xm288) hP_288 6 (pc' := 83) (lv' := [(5, .int ((yw v5) + (-1 : Int32))), (0, .int (yw v0)), (2, .ref v2), (6, .int (yw v6))]) (st' := [.int (-(yw v0)), .ref 1000000003, .int ((yw v5) + (-1 : Int32)), .ref v2]) rfl ?_
      refine xZ.eqs (lv2 := [(5, .int (yw (v5 + (-1)))), (0, .int (yw v0)), (2, .ref v2), (6, .int (yw v6))]) (st2 := [.int (yw (-v0)), .ref 1000000003, .int (yw (v5 + (-1))), .ref v2]) (by simp only [yl_lit, yL_lit, yw_add, yw_sub, yw_mul, yw_neg, yl_add, yl_sub, yl_mul, cj_and, cj_or, cj_xor, cj_shl, cj_shr, cj_ushr, cj_div, cj_i2c, cj_i2b, cj_dc, ck_and, ck_or, ck_xor, ck_shl, ck_shr, ck_ushr, ck_i2l, ck_l2i, ck_cmp]) (by simp only [yl_lit, yL_lit, yw_add, yw_sub, yw_mul, yw_neg, yl_add, yl_sub, yl_mul, cj_and, cj_or, cj_xor, cj_shl, cj_shr, cj_ushr, cj_div, cj_i2c, cj_i2b, cj_dc, ck_and, ck_or, ck_xor, ck_shl, ck_shr, ck_ushr, ck_i2l, ck_l2i, ck_cmp]) ?_
      refine xZ.k_aJB (me := xm288) hP_288 rfl (fun x1 => ?_)
      refine xZ.k_wJB (me := xm288) hP_288 rfl (fun M1 => ?_)
      refine xZ.adv (me := xm288) hP_288 2 (pc' := 88) (lv' := [(5, .int (yw (v5 + (-1)))), (0, .int (yw v0)), (2, .ref v2), (6, .int (yw v6))]) (st' := [.int (-9 : Int32), .int (yw v0)]) rfl ?_
      refine xZ.eqs (lv2 := [(5, .int (yw (v5 + (-1)))), (0, .int (yw v0)), (2, .ref v2), (6, .int (yw v6))]) (st2 := [.int (yw (-9)), .int (yw v0)]) rfl (by simp only [yl_lit, yL_lit, yw_add, yw_sub, yw_mul, yw_neg, yl_add, yl_sub, yl_mul, cj_and, cj_or, cj_xor, cj_shl, cj_shr, cj_ushr, cj_div, cj_i2c, cj_i2b, cj_dc, ck_and, ck_or, ck_xor, ck_shl, ck_shr, ck_ushr, ck_i2l, ck_l2i, ck_cmp]) ?_
      refine xZ.jc_ge (me := xm288) hP_288 rfl (fun h2 => ?_) (fun h2 => ?_)
      · skip
        exact xZ.sub (xsc (.tail _ (.tail _ (.head _))) (xsc (.head _) (xsc (.tail _ (.tail _ (.tail _ (.head _)))) xsn))) (show ([5, 0, 2, 6] : List Nat).Nodup from by decide) (k_f_Integer_getChars_104 O f d v2 (v5 + (-1)) v6 M1)
      · skip
        refine xZ.adv (me := xm288) hP_288 6 (pc' := 102) (lv' := [(5, .int ((yw (v5 + (-1))) + (-1 : Int32))), (0, .int (yw v0)), (2, .ref v2), (6, .int (yw v6))]) (st' := [.int (-(yw v0)), .ref 1000000002, .int ((yw (v5 + (-1))) + (-1 : Int32)), .ref v2]) rfl ?_
        refine xZ.eqs (lv2 := [(5, .int (yw ((v5 + (-1)) + (-1)))), (0, .int (yw v0)), (2, .ref v2), (6, .int (yw v6))]) (st2 := [.int (yw (-v0)), .ref 1000000002, .int (yw ((v5 + (-1)) + (-1))), .ref v2]) (by simp only [yl_lit, yL_lit, yw_add, yw_sub, yw_mul, yw_neg, yl_add, yl_sub, yl_mul, cj_and, cj_or, cj_xor, cj_shl, cj_shr, cj_ushr, cj_div, cj_i2c, cj_i2b, cj_dc, ck_and, ck_or, ck_xor, ck_shl, ck_shr, ck_ushr, ck_i2l, ck_l2i, ck_cmp]) (by simp only [yl_lit, yL_lit, yw_add, yw_sub, yw_mul, yw_neg, yl_add, yl_sub, yl_mul, cj_and, cj_or, cj_xor, cj_shl, cj_shr, cj_ushr, cj_div, cj_i2c, cj_i2b, cj_dc, ck_and, ck_or, ck_xor, ck_shl, ck_shr, ck_ushr, ck_i2l, ck_l2i, ck_cmp]) ?_
        refine xZ.k_aJB (me := xm288) hP_288 rfl (fun x2 => ?_)
        refine xZ.k_wJB (me := xm288) hP_288 rfl (fun M2 => ?_)
        exact xZ.sub (xsc (.tail _ (.tail _ (.head _))) (xsc (.head _) (xsc (.tail _ (.tail _ (.tail _ (.head _)))) xsn))) (show ([5, 0, 2, 6] : List Nat).Nodup from by decide) (k_f_Integer_getChars_104 O f d v2 ((v5 + (-1)) + (-1)) v6 M2)
    · skip
      refine xZ.adv (me := xm288) hP_288 17 (pc' := 54) (lv' := [(5, .int ((yw v5) + (-1 : Int32))), (0, .int ((yw v0) / (100 : Int32))), (4, .int ((((yw v0) / (100 : Int32)) * (100 : Int32)) - (yw v0))), (3, .int ((yw v0) / (100 : Int32))), (2, .ref v2), (6, .int (yw v6))]) (st' := [.int ((((yw v0) / (100 : Int32)) * (100 : Int32)) - (yw v0)), .ref 1000000003, .int ((yw v5) + (-1 : Int32)), .ref v2]) rfl ?_
      refine xZ.eqs (lv2 := [(5, .int (yw (v5 + (-1)))), (0, .int (yw (jdiv v0 100))), (4, .int (yw (((jdiv v0 100) * 100) - v0))), (3, .int (yw (jdiv v0 100))), (2, .ref v2), (6, .int (yw v6))]) (st2 := [.int (yw (((jdiv v0 100) * 100) - v0)), .ref 1000000003, .int (yw (v5 + (-1))), .ref v2]) (by simp only [yl_lit, yL_lit, yw_add, yw_sub, yw_mul, yw_neg, yl_add, yl_sub, yl_mul, cj_and, cj_or, cj_xor, cj_shl, cj_shr, cj_ushr, cj_div, cj_i2c, cj_i2b, cj_dc, ck_and, ck_or, ck_xor, ck_shl, ck_shr, ck_ushr, ck_i2l, ck_l2i, ck_cmp]) (by simp only [yl_lit, yL_lit, yw_add, yw_sub, yw_mul, yw_neg, yl_add, yl_sub, yl_mul, cj_and, cj_or, cj_xor, cj_shl, cj_shr, cj_ushr, cj_div, cj_i2c, cj_i2b, cj_dc, ck_and, ck_or, ck_xor, ck_shl, ck_shr, ck_ushr, ck_i2l, ck_l2i, ck_cmp]) ?_
      refine xZ.k_aJB (me := xm288) hP_288 rfl (fun x3 => ?_)
      refine xZ.k_wJB (me := xm288) hP_288 rfl (fun M3 => ?_)
      refine xZ.adv (me := xm288) hP_288 5 (pc' := 67) (lv' := [(5, .int ((yw (v5 + (-1))) + (-1 : Int32))), (0, .int (yw (jdiv v0 100))), (4, .int (yw (((jdiv v0 100) * 100) - v0))), (3, .int (yw (jdiv v0 100))), (2, .ref v2), (6, .int (yw v6))]) (st' := [.int (yw (((jdiv v0 100) * 100) - v0)), .ref 1000000002, .int ((yw (v5 + (-1))) + (-1 : Int32)), .ref v2]) rfl ?_
      refine xZ.eqs (lv2 := [(5, .int (yw ((v5 + (-1)) + (-1)))), (0, .int (yw (jdiv v0 100))), (4, .int (yw (((jdiv v0 100) * 100) - v0))), (3, .int (yw (jdiv v0 100))), (2, .ref v2), (6, .int (yw v6))]) (st2 := [.int (yw (((jdiv v0 100) * 100) - v0)), .ref 1000000002, .int (yw ((v5 + (-1)) + (-1))), .ref v2]) (by simp only [yl_lit, yL_lit, yw_add, yw_sub, yw_mul, yw_neg, yl_add, yl_sub, yl_mul, cj_and, cj_or, cj_xor, cj_shl, cj_shr, cj_ushr, cj_div, cj_i2c, cj_i2b, cj_dc, ck_and, ck_or, ck_xor, ck_shl, ck_shr, ck_ushr, ck_i2l, ck_l2i, ck_cmp]) (by simp only [yl_lit, yL_lit, yw_add, yw_sub, yw_mul, yw_neg, yl_add, yl_sub, yl_mul, cj_and, cj_or, cj_xor, cj_shl, cj_shr, cj_ushr, cj_div, cj_i2c, cj_i2b, cj_dc, ck_and, ck_or, ck_xor, ck_shl, ck_shr, ck_ushr, ck_i2l, ck_l2i, ck_cmp]) ?_
      refine xZ.k_aJB (me := xm288) hP_288 rfl (fun x4 => ?_)
      refine xZ.k_wJB (me := xm288) hP_288 rfl (fun M4 => ?_)
      refine xZ.adv (me := xm288) hP_288 1 (pc' := 22) (lv' := [(5, .int (yw ((v5 + (-1)) + (-1)))), (0, .int (yw (jdiv v0 100))), (4, .int (yw (((jdiv v0 100) * 100) - v0))), (3, .int (yw (jdiv v0 100))), (2, .ref v2), (6, .int (yw v6))]) (st' := []) rfl ?_
      exact xZ.sub (xsc (.tail _ (.head _)) (xsc (.tail _ (.tail _ (.tail _ (.tail _ (.head _))))) (xsc (.head _) (xsc (.tail _ (.tail _ (.tail _ (.tail _ (.tail _ (.head _)))))) xsn)))) (show ([5, 0, 4, 3, 2, 6] : List Nat).Nodup from by decide) (ih (jdiv v0 100) v2 ((v5 + (-1)) + (-1)) v6 M4)
def f_Integer_getChars_12 (O : Nat → Option va_E) (f : Nat) (v0 : Int) (v2 : Nat) (v5 : Int) (s0 : Int) (M : xM) : Option (Int × xM) :=
  if yw s0 = yw 0 then (
    f_Integer_getChars_22 O f f (-v0) v2 v5 s0 M
  ) else
  f_Integer_getChars_22 O f f v0 v2 v5 s0 M
set_option maxRecDepth 20000 in
theorem k_f_Integer_getChars_12 (O : Nat → Option va_E) (f d : Nat) (v0 : Int) (v2 : Nat) (v5 : Int) (s0 : Int) (M : xM) : xZ oJ O (d + 0) 288 12 [(0, .int (yw v0)), (2, .ref v2), (5, .int (yw v5))] [.int (yw s0)] M (f_Integer_getChars_12 O f v0 v2 v5 s0 M) := by
  unfold f_Integer_getChars_12
  refine xZ.adv (me := xm288) hP_288 2 (pc' := 16) (lv' := [(6, .int (yw s0)), (0, .int (yw v0)), (2, .ref v2), (5, .int (yw v5))]) (st' := [.int (yw s0)]) rfl ?_
  refine xZ.jf_ne (me := xm288) hP_288 rfl (fun h1 => ?_) (fun h1 => ?_)
  · skip
    refine xZ.adv (me := xm288) hP_288 3 (pc' := 22) (lv' := [(0, .int (-(yw v0))), (6, .int (yw s0)), (2, .ref v2), (5, .int (yw v5))]) (st' := []) rfl ?_
    refine xZ.eqs (lv2 := [(0, .int (yw (-v0))), (6, .int (yw s0)), (2, .ref v2), (5, .int (yw v5))]) (st2 := []) (by simp only [yl_lit, yL_lit, yw_add, yw_sub, yw_mul, yw_neg, yl_add, yl_sub, yl_mul, cj_and, cj_or, cj_xor, cj_shl, cj_shr, cj_ushr, cj_div, cj_i2c, cj_i2b, cj_dc, ck_and, ck_or, ck_xor, ck_shl, ck_shr, ck_ushr, ck_i2l, ck_l2i, ck_cmp]) rfl ?_
    exact xZ.sub (xsc (.head _) (xsc (.tail _ (.tail _ (.head _))) (xsc (.tail _ (.tail _ (.tail _ (.head _)))) (xsc (.tail _ (.head _)) xsn)))) (show ([0, 6, 2, 5] : List Nat).Nodup from by decide) (k_f_Integer_getChars_22 O f d f (-v0) v2 v5 s0 M)
  · skip
    exact xZ.sub (xsc (.tail _ (.head _)) (xsc (.tail _ (.tail _ (.head _))) (xsc (.tail _ (.tail _ (.tail _ (.head _)))) (xsc (.head _) xsn)))) (show ([6, 0, 2, 5] : List Nat).Nodup from by decide) (k_f_Integer_getChars_22 O f d f v0 v2 v5 s0 M)
def f_Integer_getChars (O : Nat → Option va_E) (f : Nat) (v0 : Int) (v1 : Int) (v2 : Nat) (M : xM) : Option (Int × xM) :=
  if yw 0 ≤ yw v0 then (
    f_Integer_getChars_12 O f v0 v2 v1 0 M
  ) else
  f_Integer_getChars_12 O f v0 v2 v1 1 M
set_option maxRecDepth 20000 in
theorem k_f_Integer_getChars (O : Nat → Option va_E) (f d : Nat) (v0 : Int) (v1 : Int) (v2 : Nat) (M : xM) : xZ oJ O (d + 0) 288 0 [(0, .int (yw v0)), (1, .int (yw v1)), (2, .ref v2)] [] M (f_Integer_getChars O f v0 v1 v2 M) := by
  unfold f_Integer_getChars
  refine xZ.adv (me := xm288) hP_288 3 (pc' := 4) (lv' := [(5, .int (yw v1)), (0, .int (yw v0)), (1, .int (yw v1)), (2, .ref v2)]) (st' := [.int (yw v0)]) rfl ?_
  refine xZ.jf_ge (me := xm288) hP_288 rfl (fun h1 => ?_) (fun h1 => ?_)
  · skip
    refine xZ.adv (me := xm288) hP_288 1 (pc' := 12) (lv' := [(5, .int (yw v1)), (0, .int (yw v0)), (1, .int (yw v1)), (2, .ref v2)]) (st' := [.int (0 : Int32)]) rfl ?_
    refine xZ.eqs (lv2 := [(5, .int (yw v1)), (0, .int (yw v0)), (1, .int (yw v1)), (2, .ref v2)]) (st2 := [.int (yw 0)]) rfl (by simp only [yl_lit, yL_lit, yw_add, yw_sub, yw_mul, yw_neg, yl_add, yl_sub, yl_mul, cj_and, cj_or, cj_xor, cj_shl, cj_shr, cj_ushr, cj_div, cj_i2c, cj_i2b, cj_dc, ck_and, ck_or, ck_xor, ck_shl, ck_shr, ck_ushr, ck_i2l, ck_l2i, ck_cmp]) ?_
    exact xZ.sub (xsc (.tail _ (.head _)) (xsc (.tail _ (.tail _ (.tail _ (.head _)))) (xsc (.head _) xsn))) (show ([5, 0, 1, 2] : List Nat).Nodup from by decide) (k_f_Integer_getChars_12 O f d v0 v2 v1 0 M)
  · skip
    refine xZ.adv (me := xm288) hP_288 2 (pc' := 12) (lv' := [(5, .int (yw v1)), (0, .int (yw v0)), (1, .int (yw v1)), (2, .ref v2)]) (st' := [.int (1 : Int32)]) rfl ?_
    refine xZ.eqs (lv2 := [(5, .int (yw v1)), (0, .int (yw v0)), (1, .int (yw v1)), (2, .ref v2)]) (st2 := [.int (yw 1)]) rfl (by simp only [yl_lit, yL_lit, yw_add, yw_sub, yw_mul, yw_neg, yl_add, yl_sub, yl_mul, cj_and, cj_or, cj_xor, cj_shl, cj_shr, cj_ushr, cj_div, cj_i2c, cj_i2b, cj_dc, ck_and, ck_or, ck_xor, ck_shl, ck_shr, ck_ushr, ck_i2l, ck_l2i, ck_cmp]) ?_
    exact xZ.sub (xsc (.tail _ (.head _)) (xsc (.tail _ (.tail _ (.tail _ (.head _)))) (xsc (.head _) xsn))) (show ([5, 0, 1, 2] : List Nat).Nodup from by decide) (k_f_Integer_getChars_12 O f d v0 v2 v1 1 M)
def f_AbstractStringBuilder_append_286 (O : Nat → Option va_E) (f : Nat) (v0 : Nat) (v1 : Int) (M : xM) : Option (Nat × xM) :=
  (gJ O M v0 1 3).bind fun x1 =>
  xcl (f_Integer_stringSize O f v1 M) fun x2 M1 =>
  (isO O M1 v0 1).bind fun _ =>
  xcl (f_AbstractStringBuilder_ensureCapacityInternal O f v0 (x1 + x2) M1) fun _ M2 =>
  (isO O M2 v0 1).bind fun _ =>
  xcl (f_AbstractStringBuilder_isLatin1 O f v0 M2) fun x4 M3 =>
  if yw x4 = yw 0 then (
    (gR O M3 v0 1 0).bind fun x5 =>
    none
  ) else
  (gR O M3 v0 1 0).bind fun x6 =>
  xcl (f_Integer_getChars O f v1 (x1 + x2) x6 M3) fun x7 M4 =>
  (pJ M4 v0 1 3 (x1 + x2)).bind fun M5 =>
  some (v0, M5)
set_option maxRecDepth 20000 in
theorem k_f_AbstractStringBuilder_append_286 (O : Nat → Option va_E) (f d : Nat) (v0 : Nat) (v1 : Int) (M : xM) : xZ oR O (d + 4) 286 0 [(0, .ref v0), (1, .int (yw v1))] [] M (f_AbstractStringBuilder_append_286 O f v0 v1 M) := by
  unfold f_AbstractStringBuilder_append_286
  refine xZ.adv (me := xm286) hP_286 1 (pc' := 1) (lv' := [(0, .ref v0), (1, .int (yw v1))]) (st' := [.ref v0]) rfl ?_
  refine xZ.k_gJ (me := xm286) hP_286 rfl (fun x1 => ?_)
  refine xZ.adv (me := xm286) hP_286 3 (pc' := 7) (lv' := [(2, .int (yw x1)), (0, .ref v0), (1, .int (yw v1))]) (st' := [.int (yw v1), .int (yw x1)]) rfl ?_
  refine xZ.calls (κ := oJ) (av := [.int (yw v1)]) (rest := [.int (yw x1)]) (st' := fun x2 => [.int (yw x2), .int (yw x1)]) (me := xm286) hP_286 rfl rfl rfl (Nat.le_of_ble_eq_true rfl) (by decide) hP_287 (Nat.le_of_ble_eq_true rfl) (fun _ => rfl) (k_f_Integer_stringSize O f (d + 3) v1 M) (fun x2 M1 => ?_)
  refine xZ.adv (me := xm286) hP_286 4 (pc' := 14) (lv' := [(3, .int ((yw x1) + (yw x2))), (2, .int (yw x1)), (0, .ref v0), (1, .int (yw v1))]) (st' := [.int ((yw x1) + (yw x2)), .ref v0]) rfl ?_
  refine xZ.eqs (lv2 := [(3, .int (yw (x1 + x2))), (2, .int (yw x1)), (0, .ref v0), (1, .int (yw v1))]) (st2 := [.int (yw (x1 + x2)), .ref v0]) (by simp only [yl_lit, yL_lit, yw_add, yw_sub, yw_mul, yw_neg, yl_add, yl_sub, yl_mul, cj_and, cj_or, cj_xor, cj_shl, cj_shr, cj_ushr, cj_div, cj_i2c, cj_i2b, cj_dc, ck_and, ck_or, ck_xor, ck_shl, ck_shr, ck_ushr, ck_i2l, ck_l2i, ck_cmp]) (by simp only [yl_lit, yL_lit, yw_add, yw_sub, yw_mul, yw_neg, yl_add, yl_sub, yl_mul, cj_and, cj_or, cj_xor, cj_shl, cj_shr, cj_ushr, cj_div, cj_i2c, cj_i2b, cj_dc, ck_and, ck_or, ck_xor, ck_shl, ck_shr, ck_ushr, ck_i2l, ck_l2i, ck_cmp]) ?_
  refine xZ.callv (κ := oU) (av := [.int (yw (x1 + x2))]) (rest := []) (st' := fun _ => []) (k0 := v0) (me := xm286) hP_286 rfl (Or.inr (Or.inl rfl)) ⟨rfl, by decide⟩ rfl rfl (Nat.le_of_ble_eq_true rfl) (by decide) hP_259 (Nat.le_of_ble_eq_true rfl) (fun _ => rfl) (k_f_AbstractStringBuilder_ensureCapacityInternal O f (d + 0) v0 (x1 + x2) M1) (fun _ M2 => ?_)
  refine xZ.adv (me := xm286) hP_286 1 (pc' := 18) (lv' := [(3, .int (yw (x1 + x2))), (2, .int (yw x1)), (0, .ref v0), (1, .int (yw v1))]) (st' := [.ref v0]) rfl ?_
  refine xZ.callv (κ := oJ) (av := []) (rest := []) (st' := fun x4 => [.int (yw x4)]) (k0 := v0) (me := xm286) hP_286 rfl (Or.inr (Or.inl rfl)) ⟨rfl, by decide⟩ rfl rfl (Nat.le_of_ble_eq_true rfl) (by decide) hP_264 (Nat.le_of_ble_eq_true rfl) (fun _ => rfl) (k_f_AbstractStringBuilder_isLatin1 O f (d + 3) v0 M2) (fun x4 M3 => ?_)
  refine xZ.jf_eq (me := xm286) hP_286 rfl (fun h1 => ?_) (fun h1 => ?_)
  · skip
    refine xZ.adv (me := xm286) hP_286 4 (pc' := 41) (lv' := [(3, .int (yw (x1 + x2))), (2, .int (yw x1)), (0, .ref v0), (1, .int (yw v1))]) (st' := [.ref v0, .int (yw (x1 + x2)), .int (yw x1), .int (yw v1)]) rfl ?_
    refine xZ.k_gR (me := xm286) hP_286 rfl (fun x5 => ?_)
    exact xZ.no
  · skip
    refine xZ.adv (me := xm286) hP_286 3 (pc' := 27) (lv' := [(3, .int (yw (x1 + x2))), (2, .int (yw x1)), (0, .ref v0), (1, .int (yw v1))]) (st' := [.ref v0, .int (yw (x1 + x2)), .int (yw v1)]) rfl ?_
    refine xZ.k_gR (me := xm286) hP_286 rfl (fun x6 => ?_)
    refine xZ.calls (κ := oJ) (av := [.int (yw v1), .int (yw (x1 + x2)), .ref x6]) (rest := []) (st' := fun x7 => [.int (yw x7)]) (me := xm286) hP_286 rfl rfl rfl (Nat.le_of_ble_eq_true rfl) (by decide) hP_288 (Nat.le_of_ble_eq_true rfl) (fun _ => rfl) (k_f_Integer_getChars O f (d + 3) v1 (x1 + x2) x6 M3) (fun x7 M4 => ?_)
    refine xZ.adv (me := xm286) hP_286 4 (pc' := 50) (lv' := [(3, .int (yw (x1 + x2))), (2, .int (yw x1)), (0, .ref v0), (1, .int (yw v1))]) (st' := [.int (yw (x1 + x2)), .ref v0]) rfl ?_
    refine xZ.k_pJ (me := xm286) hP_286 rfl (fun M5 => ?_)
    refine xZ.adv (me := xm286) hP_286 1 (pc' := 54) (lv' := [(3, .int (yw (x1 + x2))), (2, .int (yw x1)), (0, .ref v0), (1, .int (yw v1))]) (st' := [.ref v0]) rfl ?_
    exact xZ.retr (me := xm286) hP_286 rfl rfl rfl
def f_StringBuilder_append_285 (O : Nat → Option va_E) (f : Nat) (v0 : Nat) (v1 : Int) (M : xM) : Option (Nat × xM) :=
  (isO O M v0 1).bind fun _ =>
  xcl (f_AbstractStringBuilder_append_286 O f v0 v1 M) fun x1 M1 =>
  some (v0, M1)
set_option maxRecDepth 20000 in
theorem k_f_StringBuilder_append_285 (O : Nat → Option va_E) (f d : Nat) (v0 : Nat) (v1 : Int) (M : xM) : xZ oR O (d + 5) 285 0 [(0, .ref v0), (1, .int (yw v1))] [] M (f_StringBuilder_append_285 O f v0 v1 M) := by
  unfold f_StringBuilder_append_285
  refine xZ.adv (me := xm285) hP_285 2 (pc' := 2) (lv' := [(0, .ref v0), (1, .int (yw v1))]) (st' := [.int (yw v1), .ref v0]) rfl ?_
  refine xZ.callu (κ := oR) (av := [.int (yw v1)]) (rest := []) (st' := fun x1 => [.ref x1]) (k0 := v0) (me := xm285) hP_285 rfl ⟨rfl, by decide⟩ rfl rfl (Nat.le_of_ble_eq_true rfl) (by decide) hP_286 (Nat.le_of_ble_eq_true rfl) (fun _ => rfl) (k_f_AbstractStringBuilder_append_286 O f (d + 0) v0 v1 M) (fun x1 M1 => ?_)
  refine xZ.adv (me := xm285) hP_285 2 (pc' := 7) (lv' := [(0, .ref v0), (1, .int (yw v1))]) (st' := [.ref v0]) rfl ?_
  exact xZ.retr (me := xm285) hP_285 rfl rfl rfl
def f_LRule_text_136 (O : Nat → Option va_E) (f : Nat) (K78 : Nat → Nat → Nat → Nat → Int → xM → Option (Nat × xM)) (v0 : Nat) (v1 : Nat) (v2 : Nat) (v4 : Int) (s0 : Nat) (s1 : Nat) (M : xM) : Option (Nat × xM) :=
  (isO O M s0 1).bind fun _ =>
  xcl (f_StringBuilder_append_256 O f s0 s1 M) fun x1 M1 =>
  (isO O M1 x1 1).bind fun _ =>
  xcl (f_StringBuilder_toString O f x1 M1) fun x2 M2 =>
  K78 v0 v1 v2 x2 (v4 + 1) M2
set_option maxRecDepth 20000 in
theorem k_f_LRule_text_136 (O : Nat → Option va_E) (f d : Nat) (K78 : Nat → Nat → Nat → Nat → Int → xM → Option (Nat × xM)) (hK78 : ∀ (v0 : Nat) (v1 : Nat) (v2 : Nat) (v3 : Nat) (v4 : Int) M, xZ oR O (d + 7) 58 78 [(0, .ref v0), (1, .ref v1), (2, .ref v2), (3, .ref v3), (4, .int (yw v4))] [] M (K78 v0 v1 v2 v3 v4 M)) (v0 : Nat) (v1 : Nat) (v2 : Nat) (v4 : Int) (s0 : Nat) (s1 : Nat) (M : xM) : xZ oR O (d + 7) 58 136 [(0, .ref v0), (1, .ref v1), (2, .ref v2), (4, .int (yw v4))] [.ref s1, .ref s0] M (f_LRule_text_136 O f K78 v0 v1 v2 v4 s0 s1 M) := by
  unfold f_LRule_text_136
  refine xZ.callv (κ := oR) (av := [.ref s1]) (rest := []) (st' := fun x1 => [.ref x1]) (k0 := s0) (me := xm58) hP_58 rfl (Or.inl rfl) ⟨rfl, by decide⟩ rfl rfl (Nat.le_of_ble_eq_true rfl) (by decide) hP_256 (Nat.le_of_ble_eq_true rfl) (fun _ => rfl) (k_f_StringBuilder_append_256 O f (d + 0) s0 s1 M) (fun x1 M1 => ?_)
  refine xZ.callv (κ := oR) (av := []) (rest := []) (st' := fun x2 => [.ref x2]) (k0 := x1) (me := xm58) hP_58 rfl (Or.inl rfl) ⟨rfl, by decide⟩ rfl rfl (Nat.le_of_ble_eq_true rfl) (by decide) hP_276 (Nat.le_of_ble_eq_true rfl) (fun _ => rfl) (k_f_StringBuilder_toString O f (d + 1) x1 M1) (fun x2 M2 => ?_)
  refine xZ.adv (me := xm58) hP_58 3 (pc' := 78) (lv' := [(4, .int ((yw v4) + (1 : Int32))), (3, .ref x2), (0, .ref v0), (1, .ref v1), (2, .ref v2)]) (st' := []) rfl ?_
  refine xZ.eqs (lv2 := [(4, .int (yw (v4 + 1))), (3, .ref x2), (0, .ref v0), (1, .ref v1), (2, .ref v2)]) (st2 := []) (by simp only [yl_lit, yL_lit, yw_add, yw_sub, yw_mul, yw_neg, yl_add, yl_sub, yl_mul, cj_and, cj_or, cj_xor, cj_shl, cj_shr, cj_ushr, cj_div, cj_i2c, cj_i2b, cj_dc, ck_and, ck_or, ck_xor, ck_shl, ck_shr, ck_ushr, ck_i2l, ck_l2i, ck_cmp]) rfl ?_
  exact xZ.sub (xsc (.tail _ (.tail _ (.head _))) (xsc (.tail _ (.tail _ (.tail _ (.head _)))) (xsc (.tail _ (.tail _ (.tail _ (.tail _ (.head _))))) (xsc (.tail _ (.head _)) (xsc (.head _) xsn))))) (show ([4, 3, 0, 1, 2] : List Nat).Nodup from by decide) (hK78 v0 v1 v2 x2 (v4 + 1) M2)
def f_LRule_text_597 (O : Nat → Option va_E) (f : Nat) (s0 : Nat) (s1 : Nat) (M : xM) : Option (Nat × xM) :=
  (isO O M s0 1).bind fun _ =>
  xcl (f_StringBuilder_append_256 O f s0 s1 M) fun x1 M1 =>
  (isO O M1 x1 1).bind fun _ =>
  xcl (f_StringBuilder_toString O f x1 M1) fun x2 M2 =>
  some (x2, M2)
set_option maxRecDepth 20000 in
theorem k_f_LRule_text_597 (O : Nat → Option va_E) (f d : Nat) (s0 : Nat) (s1 : Nat) (M : xM) : xZ oR O (d + 7) 58 597 [] [.ref s1, .ref s0] M (f_LRule_text_597 O f s0 s1 M) := by
  unfold f_LRule_text_597
  refine xZ.callv (κ := oR) (av := [.ref s1]) (rest := []) (st' := fun x1 => [.ref x1]) (k0 := s0) (me := xm58) hP_58 rfl (Or.inl rfl) ⟨rfl, by decide⟩ rfl rfl (Nat.le_of_ble_eq_true rfl) (by decide) hP_256 (Nat.le_of_ble_eq_true rfl) (fun _ => rfl) (k_f_StringBuilder_append_256 O f (d + 0) s0 s1 M) (fun x1 M1 => ?_)
  refine xZ.callv (κ := oR) (av := []) (rest := []) (st' := fun x2 => [.ref x2]) (k0 := x1) (me := xm58) hP_58 rfl (Or.inl rfl) ⟨rfl, by decide⟩ rfl rfl (Nat.le_of_ble_eq_true rfl) (by decide) hP_276 (Nat.le_of_ble_eq_true rfl) (fun _ => rfl) (k_f_StringBuilder_toString O f (d + 1) x1 M1) (fun x2 M2 => ?_)
  exact xZ.retr (me := xm58) hP_58 rfl rfl rfl
def f_LRule_text_517 (O : Nat → Option va_E) (f : Nat) (v0 : Nat) (v5 : Nat) (M : xM) : Option (Nat × xM) :=
  xcl (nO M 1) fun x1 M1 =>
  xcl (f_StringBuilder_ctor O f x1 M1) fun _ M2 =>
  (isO O M2 x1 1).bind fun _ =>
  xcl (f_StringBuilder_append_256 O f x1 v5 M2) fun x3 M3 =>
  (gJ O M3 v0 16 5).bind fun x4 =>
  if yw x4 = yw 1 then (
    xcl (nO M3 1) fun x5 M4 =>
    xcl (f_StringBuilder_ctor O f x5 M4) fun _ M5 =>
    (isO O M5 x5 1).bind fun _ =>
    xcl (f_StringBuilder_append_256 O f x5 1000000054 M5) fun x7 M6 =>
    (gJ O M6 v0 16 6).bind fun x8 =>
    (isO O M6 x7 1).bind fun _ =>
    xcl (f_StringBuilder_append_285 O f x7 x8 M6) fun x9 M7 =>
    (isO O M7 x9 1).bind fun _ =>
    xcl (f_StringBuilder_toString O f x9 M7) fun x10 M8 =>
    f_LRule_text_597 O f x3 x10 M8
  ) else
  (gJ O M3 v0 16 5).bind fun x11 =>
  if yw x11 = yw 2 then (
    xcl (nO M3 1) fun x12 M9 =>
    xcl (f_StringBuilder_ctor O f x12 M9) fun _ M10 =>
    (isO O M10 x12 1).bind fun _ =>
    xcl (f_StringBuilder_append_256 O f x12 1000000056 M10) fun x14 M11 =>
    (gJ O M11 v0 16 6).bind fun x15 =>
    (isO O M11 x14 1).bind fun _ =>
    xcl (f_StringBuilder_append_285 O f x14 x15 M11) fun x16 M12 =>
    (isO O M12 x16 1).bind fun _ =>
    xcl (f_StringBuilder_toString O f x16 M12) fun x17 M13 =>
    f_LRule_text_597 O f x3 x17 M13
  ) else
  f_LRule_text_597 O f x3 1000000034 M3
set_option maxRecDepth 20000 in
theorem k_f_LRule_text_517 (O : Nat → Option va_E) (f d : Nat) (v0 : Nat) (v5 : Nat) (M : xM) : xZ oR O (d + 7) 58 517 [(0, .ref v0), (5, .ref v5)] [] M (f_LRule_text_517 O f v0 v5 M) := by
  unfold f_LRule_text_517
  refine xZ.k_nO (me := xm58) hP_58 rfl rfl (fun x1 M1 => ?_)
  refine xZ.adv (me := xm58) hP_58 1 (pc' := 521) (lv' := [(0, .ref v0), (5, .ref v5)]) (st' := [.ref x1, .ref x1]) rfl ?_
  refine xZ.calli (κ := oU) (av := []) (rest := [.ref x1]) (st' := fun _ => [.ref x1]) (k0 := x1) (me := xm58) hP_58 rfl (Or.inl rfl) rfl rfl (Nat.le_of_ble_eq_true rfl) (by decide) hP_254 (Nat.le_of_ble_eq_true rfl) (fun _ => rfl) (k_f_StringBuilder_ctor O f (d + 5) x1 M1) (fun _ M2 => ?_)
  refine xZ.adv (me := xm58) hP_58 1 (pc' := 526) (lv' := [(0, .ref v0), (5, .ref v5)]) (st' := [.ref v5, .ref x1]) rfl ?_
  refine xZ.callv (κ := oR) (av := [.ref v5]) (rest := []) (st' := fun x3 => [.ref x3]) (k0 := x1) (me := xm58) hP_58 rfl (Or.inl rfl) ⟨rfl, by decide⟩ rfl rfl (Nat.le_of_ble_eq_true rfl) (by decide) hP_256 (Nat.le_of_ble_eq_true rfl) (fun _ => rfl) (k_f_StringBuilder_append_256 O f (d + 0) x1 v5 M2) (fun x3 M3 => ?_)
  refine xZ.adv (me := xm58) hP_58 1 (pc' := 530) (lv' := [(0, .ref v0), (5, .ref v5)]) (st' := [.ref v0, .ref x3]) rfl ?_
  refine xZ.k_gJ (me := xm58) hP_58 rfl (fun x4 => ?_)
  refine xZ.adv (me := xm58) hP_58 1 (pc' := 534) (lv' := [(0, .ref v0), (5, .ref v5)]) (st' := [.int (1 : Int32), .int (yw x4), .ref x3]) rfl ?_
  refine xZ.eqs (lv2 := [(0, .ref v0), (5, .ref v5)]) (st2 := [.int (yw 1), .int (yw x4), .ref x3]) rfl (by simp only [yl_lit, yL_lit, yw_add, yw_sub, yw_mul, yw_neg, yl_add, yl_sub, yl_mul, cj_and, cj_or, cj_xor, cj_shl, cj_shr, cj_ushr, cj_div, cj_i2c, cj_i2b, cj_dc, ck_and, ck_or, ck_xor, ck_shl, ck_shr, ck_ushr, ck_i2l, ck_l2i, ck_cmp]) ?_
  refine xZ.jc_ne (me := xm58) hP_58 rfl (fun h1 => ?_) (fun h1 => ?_)
  · skip
    refine xZ.k_nO (me := xm58) hP_58 rfl rfl (fun x5 M4 => ?_)
    refine xZ.adv (me := xm58) hP_58 1 (pc' := 541) (lv' := [(0, .ref v0), (5, .ref v5)]) (st' := [.ref x5, .ref x5, .ref x3]) rfl ?_
    refine xZ.calli (κ := oU) (av := []) (rest := [.ref x5, .ref x3]) (st' := fun _ => [.ref x5, .ref x3]) (k0 := x5) (me := xm58) hP_58 rfl (Or.inl rfl) rfl rfl (Nat.le_of_ble_eq_true rfl) (by decide) hP_254 (Nat.le_of_ble_eq_true rfl) (fun _ => rfl) (k_f_StringBuilder_ctor O f (d + 5) x5 M4) (fun _ M5 => ?_)
    refine xZ.adv (me := xm58) hP_58 1 (pc' := 546) (lv' := [(0, .ref v0), (5, .ref v5)]) (st' := [.ref 1000000054, .ref x5, .ref x3]) rfl ?_
    refine xZ.callv (κ := oR) (av := [.ref 1000000054]) (rest := [.ref x3]) (st' := fun x7 => [.ref x7, .ref x3]) (k0 := x5) (me := xm58) hP_58 rfl (Or.inl rfl) ⟨rfl, by decide⟩ rfl rfl (Nat.le_of_ble_eq_true rfl) (by decide) hP_256 (Nat.le_of_ble_eq_true rfl) (fun _ => rfl) (k_f_StringBuilder_append_256 O f (d + 0) x5 1000000054 M5) (fun x7 M6 => ?_)
    refine xZ.adv (me := xm58) hP_58 1 (pc' := 550) (lv' := [(0, .ref v0), (5, .ref v5)]) (st' := [.ref v0, .ref x7, .ref x3]) rfl ?_
    refine xZ.k_gJ (me := xm58) hP_58 rfl (fun x8 => ?_)
    refine xZ.callv (κ := oR) (av := [.int (yw x8)]) (rest := [.ref x3]) (st' := fun x9 => [.ref x9, .ref x3]) (k0 := x7) (me := xm58) hP_58 rfl (Or.inl rfl) ⟨rfl, by decide⟩ rfl rfl (Nat.le_of_ble_eq_true rfl) (by decide) hP_285 (Nat.le_of_ble_eq_true rfl) (fun _ => rfl) (k_f_StringBuilder_append_285 O f (d + 1) x7 x8 M6) (fun x9 M7 => ?_)
    refine xZ.callv (κ := oR) (av := []) (rest := [.ref x3]) (st' := fun x10 => [.ref x10, .ref x3]) (k0 := x9) (me := xm58) hP_58 rfl (Or.inl rfl) ⟨rfl, by decide⟩ rfl rfl (Nat.le_of_ble_eq_true rfl) (by decide) hP_276 (Nat.le_of_ble_eq_true rfl) (fun _ => rfl) (k_f_StringBuilder_toString O f (d + 1) x9 M7) (fun x10 M8 => ?_)
    refine xZ.adv (me := xm58) hP_58 1 (pc' := 597) (lv' := [(0, .ref v0), (5, .ref v5)]) (st' := [.ref x10, .ref x3]) rfl ?_
    exact xZ.sub xsn (show ([0, 5] : List Nat).Nodup from by decide) (k_f_LRule_text_597 O f d x3 x10 M8)
  · skip
    refine xZ.adv (me := xm58) hP_58 1 (pc' := 563) (lv' := [(0, .ref v0), (5, .ref v5)]) (st' := [.ref v0, .ref x3]) rfl ?_
    refine xZ.k_gJ (me := xm58) hP_58 rfl (fun x11 => ?_)
    refine xZ.adv (me := xm58) hP_58 1 (pc' := 567) (lv' := [(0, .ref v0), (5, .ref v5)]) (st' := [.int (2 : Int32), .int (yw x11), .ref x3]) rfl ?_
    refine xZ.eqs (lv2 := [(0, .ref v0), (5, .ref v5)]) (st2 := [.int (yw 2), .int (yw x11), .ref x3]) rfl (by simp only [yl_lit, yL_lit, yw_add, yw_sub, yw_mul, yw_neg, yl_add, yl_sub, yl_mul, cj_and, cj_or, cj_xor, cj_shl, cj_shr, cj_ushr, cj_div, cj_i2c, cj_i2b, cj_dc, ck_and, ck_or, ck_xor, ck_shl, ck_shr, ck_ushr, ck_i2l, ck_l2i, ck_cmp]) ?_
    refine xZ.jc_ne (me := xm58) hP_58 rfl (fun h2 => ?_) (fun h2 => ?_)
    · skip
      refine xZ.k_nO (me := xm58) hP_58 rfl rfl (fun x12 M9 => ?_)
      refine xZ.adv (me := xm58) hP_58 1 (pc' := 574) (lv' := [(0, .ref v0), (5, .ref v5)]) (st' := [.ref x12, .ref x12, .ref x3]) rfl ?_
      refine xZ.calli (κ := oU) (av := []) (rest := [.ref x12, .ref x3]) (st' := fun _ => [.ref x12, .ref x3]) (k0 := x12) (me := xm58) hP_58 rfl (Or.inl rfl) rfl rfl (Nat.le_of_ble_eq_true rfl) (by decide) hP_254 (Nat.le_of_ble_eq_true rfl) (fun _ => rfl) (k_f_StringBuilder_ctor O f (d + 5) x12 M9) (fun _ M10 => ?_)
      refine xZ.adv (me := xm58) hP_58 1 (pc' := 579) (lv' := [(0, .ref v0), (5, .ref v5)]) (st' := [.ref 1000000056, .ref x12, .ref x3]) rfl ?_
      refine xZ.callv (κ := oR) (av := [.ref 1000000056]) (rest := [.ref x3]) (st' := fun x14 => [.ref x14, .ref x3]) (k0 := x12) (me := xm58) hP_58 rfl (Or.inl rfl) ⟨rfl, by decide⟩ rfl rfl (Nat.le_of_ble_eq_true rfl) (by decide) hP_256 (Nat.le_of_ble_eq_true rfl) (fun _ => rfl) (k_f_StringBuilder_append_256 O f (d + 0) x12 1000000056 M10) (fun x14 M11 => ?_)
      refine xZ.adv (me := xm58) hP_58 1 (pc' := 583) (lv' := [(0, .ref v0), (5, .ref v5)]) (st' := [.ref v0, .ref x14, .ref x3]) rfl ?_
      refine xZ.k_gJ (me := xm58) hP_58 rfl (fun x15 => ?_)
      refine xZ.callv (κ := oR) (av := [.int (yw x15)]) (rest := [.ref x3]) (st' := fun x16 => [.ref x16, .ref x3]) (k0 := x14) (me := xm58) hP_58 rfl (Or.inl rfl) ⟨rfl, by decide⟩ rfl rfl (Nat.le_of_ble_eq_true rfl) (by decide) hP_285 (Nat.le_of_ble_eq_true rfl) (fun _ => rfl) (k_f_StringBuilder_append_285 O f (d + 1) x14 x15 M11) (fun x16 M12 => ?_)
      refine xZ.callv (κ := oR) (av := []) (rest := [.ref x3]) (st' := fun x17 => [.ref x17, .ref x3]) (k0 := x16) (me := xm58) hP_58 rfl (Or.inl rfl) ⟨rfl, by decide⟩ rfl rfl (Nat.le_of_ble_eq_true rfl) (by decide) hP_276 (Nat.le_of_ble_eq_true rfl) (fun _ => rfl) (k_f_StringBuilder_toString O f (d + 1) x16 M12) (fun x17 M13 => ?_)
      refine xZ.adv (me := xm58) hP_58 1 (pc' := 597) (lv' := [(0, .ref v0), (5, .ref v5)]) (st' := [.ref x17, .ref x3]) rfl ?_
      exact xZ.sub xsn (show ([0, 5] : List Nat).Nodup from by decide) (k_f_LRule_text_597 O f d x3 x17 M13)
    · skip
      refine xZ.adv (me := xm58) hP_58 1 (pc' := 597) (lv' := [(0, .ref v0), (5, .ref v5)]) (st' := [.ref 1000000034, .ref x3]) rfl ?_
      exact xZ.sub xsn (show ([0, 5] : List Nat).Nodup from by decide) (k_f_LRule_text_597 O f d x3 1000000034 M3)
def f_LRule_text_505 (O : Nat → Option va_E) (f : Nat) (v0 : Nat) (v3 : Nat) (s0 : Nat) (s1 : Nat) (M : xM) : Option (Nat × xM) :=
  (isO O M s0 1).bind fun _ =>
  xcl (f_StringBuilder_append_256 O f s0 s1 M) fun x1 M1 =>
  (isO O M1 x1 1).bind fun _ =>
  xcl (f_StringBuilder_append_256 O f x1 v3 M1) fun x2 M2 =>
  (isO O M2 x2 1).bind fun _ =>
  xcl (f_StringBuilder_toString O f x2 M2) fun x3 M3 =>
  f_LRule_text_517 O f v0 x3 M3
set_option maxRecDepth 20000 in
theorem k_f_LRule_text_505 (O : Nat → Option va_E) (f d : Nat) (v0 : Nat) (v3 : Nat) (s0 : Nat) (s1 : Nat) (M : xM) : xZ oR O (d + 7) 58 505 [(0, .ref v0), (3, .ref v3)] [.ref s1, .ref s0] M (f_LRule_text_505 O f v0 v3 s0 s1 M) := by
  unfold f_LRule_text_505
  refine xZ.callv (κ := oR) (av := [.ref s1]) (rest := []) (st' := fun x1 => [.ref x1]) (k0 := s0) (me := xm58) hP_58 rfl (Or.inl rfl) ⟨rfl, by decide⟩ rfl rfl (Nat.le_of_ble_eq_true rfl) (by decide) hP_256 (Nat.le_of_ble_eq_true rfl) (fun _ => rfl) (k_f_StringBuilder_append_256 O f (d + 0) s0 s1 M) (fun x1 M1 => ?_)
  refine xZ.adv (me := xm58) hP_58 1 (pc' := 509) (lv' := [(0, .ref v0), (3, .ref v3)]) (st' := [.ref v3, .ref x1]) rfl ?_
  refine xZ.callv (κ := oR) (av := [.ref v3]) (rest := []) (st' := fun x2 => [.ref x2]) (k0 := x1) (me := xm58) hP_58 rfl (Or.inl rfl) ⟨rfl, by decide⟩ rfl rfl (Nat.le_of_ble_eq_true rfl) (by decide) hP_256 (Nat.le_of_ble_eq_true rfl) (fun _ => rfl) (k_f_StringBuilder_append_256 O f (d + 0) x1 v3 M1) (fun x2 M2 => ?_)
  refine xZ.callv (κ := oR) (av := []) (rest := []) (st' := fun x3 => [.ref x3]) (k0 := x2) (me := xm58) hP_58 rfl (Or.inl rfl) ⟨rfl, by decide⟩ rfl rfl (Nat.le_of_ble_eq_true rfl) (by decide) hP_276 (Nat.le_of_ble_eq_true rfl) (fun _ => rfl) (k_f_StringBuilder_toString O f (d + 1) x2 M2) (fun x3 M3 => ?_)
  refine xZ.adv (me := xm58) hP_58 1 (pc' := 517) (lv' := [(5, .ref x3), (0, .ref v0), (3, .ref v3)]) (st' := []) rfl ?_
  exact xZ.sub (xsc (.tail _ (.head _)) (xsc (.head _) xsn)) (show ([5, 0, 3] : List Nat).Nodup from by decide) (k_f_LRule_text_517 O f d v0 x3 M3)
def f_LRule_text_431 (O : Nat → Option va_E) (f : Nat) (v0 : Nat) (v2 : Nat) (v3 : Nat) (v5 : Nat) (M : xM) : Option (Nat × xM) :=
  (gJ O M v0 16 1).bind fun x1 =>
  if yw x1 = yw 4 then (
    xcl (nO M 1) fun x2 M1 =>
    xcl (f_StringBuilder_ctor O f x2 M1) fun _ M2 =>
    (isO O M2 x2 1).bind fun _ =>
    xcl (f_StringBuilder_append_256 O f x2 v5 M2) fun x4 M3 =>
    (gJ O M3 v0 16 4).bind fun x5 =>
    if yw x5 ≤ yw 0 then (
      (gJ O M3 v0 16 4).bind fun x6 =>
      if yw x6 = yw (-1) then (
        f_LRule_text_505 O f v0 v3 x4 1000000050 M3
      ) else
      xcl (nO M3 1) fun x7 M4 =>
      xcl (f_StringBuilder_ctor O f x7 M4) fun _ M5 =>
      (isO O M5 x7 1).bind fun _ =>
      xcl (f_StringBuilder_append_256 O f x7 1000000052 M5) fun x9 M6 =>
      (gJ O M6 v0 16 4).bind fun x10 =>
      (isO O M6 x9 1).bind fun _ =>
      xcl (f_StringBuilder_append_285 O f x9 (-x10) M6) fun x11 M7 =>
      (isO O M7 x11 1).bind fun _ =>
      xcl (f_StringBuilder_toString O f x11 M7) fun x12 M8 =>
      f_LRule_text_505 O f v0 v3 x4 x12 M8
    ) else
    (gJ O M3 v0 16 4).bind fun x13 =>
    (aJR O M3 v2 (x13 - 1)).bind fun x14 =>
    f_LRule_text_505 O f v0 v3 x4 x14 M3
  ) else
  f_LRule_text_517 O f v0 v5 M
set_option maxRecDepth 20000 in
theorem k_f_LRule_text_431 (O : Nat → Option va_E) (f d : Nat) (v0 : Nat) (v2 : Nat) (v3 : Nat) (v5 : Nat) (M : xM) : xZ oR O (d + 7) 58 431 [(0, .ref v0), (2, .ref v2), (3, .ref v3), (5, .ref v5)] [] M (f_LRule_text_431 O f v0 v2 v3 v5 M) := by
  unfold f_LRule_text_431
  refine xZ.adv (me := xm58) hP_58 1 (pc' := 432) (lv' := [(0, .ref v0), (2, .ref v2), (3, .ref v3), (5, .ref v5)]) (st' := [.ref v0]) rfl ?_
  refine xZ.k_gJ (me := xm58) hP_58 rfl (fun x1 => ?_)
  refine xZ.adv (me := xm58) hP_58 1 (pc' := 436) (lv' := [(0, .ref v0), (2, .ref v2), (3, .ref v3), (5, .ref v5)]) (st' := [.int (4 : Int32), .int (yw x1)]) rfl ?_
  refine xZ.eqs (lv2 := [(0, .ref v0), (2, .ref v2), (3, .ref v3), (5, .ref v5)]) (st2 := [.int (yw 4), .int (yw x1)]) rfl (by simp only [yl_lit, yL_lit, yw_add, yw_sub, yw_mul, yw_neg, yl_add, yl_sub, yl_mul, cj_and, cj_or, cj_xor, cj_shl, cj_shr, cj_ushr, cj_div, cj_i2c, cj_i2b, cj_dc, ck_and, ck_or, ck_xor, ck_shl, ck_shr, ck_ushr, ck_i2l, ck_l2i, ck_cmp]) ?_
  refine xZ.jc_ne (me := xm58) hP_58 rfl (fun h1 => ?_) (fun h1 => ?_)
  · skip
    refine xZ.k_nO (me := xm58) hP_58 rfl rfl (fun x2 M1 => ?_)
    refine xZ.adv (me := xm58) hP_58 1 (pc' := 443) (lv' := [(0, .ref v0), (2, .ref v2), (3, .ref v3), (5, .ref v5)]) (st' := [.ref x2, .ref x2]) rfl ?_
    refine xZ.calli (κ := oU) (av := []) (rest := [.ref x2]) (st' := fun _ => [.ref x2]) (k0 := x2) (me := xm58) hP_58 rfl (Or.inl rfl) rfl rfl (Nat.le_of_ble_eq_true rfl) (by decide) hP_254 (Nat.le_of_ble_eq_true rfl) (fun _ => rfl) (k_f_StringBuilder_ctor O f (d + 5) x2 M1) (fun _ M2 => ?_)
    refine xZ.adv (me := xm58) hP_58 1 (pc' := 448) (lv' := [(0, .ref v0), (2, .ref v2), (3, .ref v3), (5, .ref v5)]) (st' := [.ref v5, .ref x2]) rfl ?_
    refine xZ.callv (κ := oR) (av := [.ref v5]) (rest := []) (st' := fun x4 => [.ref x4]) (k0 := x2) (me := xm58) hP_58 rfl (Or.inl rfl) ⟨rfl, by decide⟩ rfl rfl (Nat.le_of_ble_eq_true rfl) (by decide) hP_256 (Nat.le_of_ble_eq_true rfl) (fun _ => rfl) (k_f_StringBuilder_append_256 O f (d + 0) x2 v5 M2) (fun x4 M3 => ?_)
    refine xZ.adv (me := xm58) hP_58 1 (pc' := 452) (lv' := [(0, .ref v0), (2, .ref v2), (3, .ref v3), (5, .ref v5)]) (st' := [.ref v0, .ref x4]) rfl ?_
    refine xZ.k_gJ (me := xm58) hP_58 rfl (fun x5 => ?_)
    refine xZ.jf_le (me := xm58) hP_58 rfl (fun h2 => ?_) (fun h2 => ?_)
    · skip
      refine xZ.adv (me := xm58) hP_58 1 (pc' := 470) (lv' := [(0, .ref v0), (2, .ref v2), (3, .ref v3), (5, .ref v5)]) (st' := [.ref v0, .ref x4]) rfl ?_
      refine xZ.k_gJ (me := xm58) hP_58 rfl (fun x6 => ?_)
      refine xZ.adv (me := xm58) hP_58 1 (pc' := 474) (lv' := [(0, .ref v0), (2, .ref v2), (3, .ref v3), (5, .ref v5)]) (st' := [.int (-1 : Int32), .int (yw x6), .ref x4]) rfl ?_
      refine xZ.eqs (lv2 := [(0, .ref v0), (2, .ref v2), (3, .ref v3), (5, .ref v5)]) (st2 := [.int (yw (-1)), .int (yw x6), .ref x4]) rfl (by simp only [yl_lit, yL_lit, yw_add, yw_sub, yw_mul, yw_neg, yl_add, yl_sub, yl_mul, cj_and, cj_or, cj_xor, cj_shl, cj_shr, cj_ushr, cj_div, cj_i2c, cj_i2b, cj_dc, ck_and, ck_or, ck_xor, ck_shl, ck_shr, ck_ushr, ck_i2l, ck_l2i, ck_cmp]) ?_
      refine xZ.jc_ne (me := xm58) hP_58 rfl (fun h3 => ?_) (fun h3 => ?_)
      · skip
        refine xZ.adv (me := xm58) hP_58 2 (pc' := 505) (lv' := [(0, .ref v0), (2, .ref v2), (3, .ref v3), (5, .ref v5)]) (st' := [.ref 1000000050, .ref x4]) rfl ?_
        exact xZ.sub (xsc (.head _) (xsc (.tail _ (.tail _ (.head _))) xsn)) (show ([0, 2, 3, 5] : List Nat).Nodup from by decide) (k_f_LRule_text_505 O f d v0 v3 x4 1000000050 M3)
      · skip
        refine xZ.k_nO (me := xm58) hP_58 rfl rfl (fun x7 M4 => ?_)
        refine xZ.adv (me := xm58) hP_58 1 (pc' := 486) (lv' := [(0, .ref v0), (2, .ref v2), (3, .ref v3), (5, .ref v5)]) (st' := [.ref x7, .ref x7, .ref x4]) rfl ?_
        refine xZ.calli (κ := oU) (av := []) (rest := [.ref x7, .ref x4]) (st' := fun _ => [.ref x7, .ref x4]) (k0 := x7) (me := xm58) hP_58 rfl (Or.inl rfl) rfl rfl (Nat.le_of_ble_eq_true rfl) (by decide) hP_254 (Nat.le_of_ble_eq_true rfl) (fun _ => rfl) (k_f_StringBuilder_ctor O f (d + 5) x7 M4) (fun _ M5 => ?_)
        refine xZ.adv (me := xm58) hP_58 1 (pc' := 491) (lv' := [(0, .ref v0), (2, .ref v2), (3, .ref v3), (5, .ref v5)]) (st' := [.ref 1000000052, .ref x7, .ref x4]) rfl ?_
        refine xZ.callv (κ := oR) (av := [.ref 1000000052]) (rest := [.ref x4]) (st' := fun x9 => [.ref x9, .ref x4]) (k0 := x7) (me := xm58) hP_58 rfl (Or.inl rfl) ⟨rfl, by decide⟩ rfl rfl (Nat.le_of_ble_eq_true rfl) (by decide) hP_256 (Nat.le_of_ble_eq_true rfl) (fun _ => rfl) (k_f_StringBuilder_append_256 O f (d + 0) x7 1000000052 M5) (fun x9 M6 => ?_)
        refine xZ.adv (me := xm58) hP_58 1 (pc' := 495) (lv' := [(0, .ref v0), (2, .ref v2), (3, .ref v3), (5, .ref v5)]) (st' := [.ref v0, .ref x9, .ref x4]) rfl ?_
        refine xZ.k_gJ (me := xm58) hP_58 rfl (fun x10 => ?_)
        refine xZ.adv (me := xm58) hP_58 1 (pc' := 499) (lv' := [(0, .ref v0), (2, .ref v2), (3, .ref v3), (5, .ref v5)]) (st' := [.int (-(yw x10)), .ref x9, .ref x4]) rfl ?_
        refine xZ.eqs (lv2 := [(0, .ref v0), (2, .ref v2), (3, .ref v3), (5, .ref v5)]) (st2 := [.int (yw (-x10)), .ref x9, .ref x4]) rfl (by simp only [yl_lit, yL_lit, yw_add, yw_sub, yw_mul, yw_neg, yl_add, yl_sub, yl_mul, cj_and, cj_or, cj_xor, cj_shl, cj_shr, cj_ushr, cj_div, cj_i2c, cj_i2b, cj_dc, ck_and, ck_or, ck_xor, ck_shl, ck_shr, ck_ushr, ck_i2l, ck_l2i, ck_cmp]) ?_
        refine xZ.callv (κ := oR) (av := [.int (yw (-x10))]) (rest := [.ref x4]) (st' := fun x11 => [.ref x11, .ref x4]) (k0 := x9) (me := xm58) hP_58 rfl (Or.inl rfl) ⟨rfl, by decide⟩ rfl rfl (Nat.le_of_ble_eq_true rfl) (by decide) hP_285 (Nat.le_of_ble_eq_true rfl) (fun _ => rfl) (k_f_StringBuilder_append_285 O f (d + 1) x9 (-x10) M6) (fun x11 M7 => ?_)
        refine xZ.callv (κ := oR) (av := []) (rest := [.ref x4]) (st' := fun x12 => [.ref x12, .ref x4]) (k0 := x11) (me := xm58) hP_58 rfl (Or.inl rfl) ⟨rfl, by decide⟩ rfl rfl (Nat.le_of_ble_eq_true rfl) (by decide) hP_276 (Nat.le_of_ble_eq_true rfl) (fun _ => rfl) (k_f_StringBuilder_toString O f (d + 1) x11 M7) (fun x12 M8 => ?_)
        exact xZ.sub (xsc (.head _) (xsc (.tail _ (.tail _ (.head _))) xsn)) (show ([0, 2, 3, 5] : List Nat).Nodup from by decide) (k_f_LRule_text_505 O f d v0 v3 x4 x12 M8)
    · skip
      refine xZ.adv (me := xm58) hP_58 2 (pc' := 460) (lv' := [(0, .ref v0), (2, .ref v2), (3, .ref v3), (5, .ref v5)]) (st' := [.ref v0, .ref v2, .ref x4]) rfl ?_
      refine xZ.k_gJ (me := xm58) hP_58 rfl (fun x13 => ?_)
      refine xZ.adv (me := xm58) hP_58 2 (pc' := 465) (lv' := [(0, .ref v0), (2, .ref v2), (3, .ref v3), (5, .ref v5)]) (st' := [.int ((yw x13) - (1 : Int32)), .ref v2, .ref x4]) rfl ?_
      refine xZ.eqs (lv2 := [(0, .ref v0), (2, .ref v2), (3, .ref v3), (5, .ref v5)]) (st2 := [.int (yw (x13 - 1)), .ref v2, .ref x4]) rfl (by simp only [yl_lit, yL_lit, yw_add, yw_sub, yw_mul, yw_neg, yl_add, yl_sub, yl_mul, cj_and, cj_or, cj_xor, cj_shl, cj_shr, cj_ushr, cj_div, cj_i2c, cj_i2b, cj_dc, ck_and, ck_or, ck_xor, ck_shl, ck_shr, ck_ushr, ck_i2l, ck_l2i, ck_cmp]) ?_
      refine xZ.k_aJR (me := xm58) hP_58 rfl (fun x14 => ?_)
      refine xZ.adv (me := xm58) hP_58 1 (pc' := 505) (lv' := [(0, .ref v0), (2, .ref v2), (3, .ref v3), (5, .ref v5)]) (st' := [.ref x14, .ref x4]) rfl ?_
      exact xZ.sub (xsc (.head _) (xsc (.tail _ (.tail _ (.head _))) xsn)) (show ([0, 2, 3, 5] : List Nat).Nodup from by decide) (k_f_LRule_text_505 O f d v0 v3 x4 x14 M3)
  · skip
    exact xZ.sub (xsc (.head _) (xsc (.tail _ (.tail _ (.tail _ (.head _)))) xsn)) (show ([0, 2, 3, 5] : List Nat).Nodup from by decide) (k_f_LRule_text_517 O f d v0 v5 M)
def f_LRule_text_423 (O : Nat → Option va_E) (f : Nat) (v0 : Nat) (v2 : Nat) (v3 : Nat) (s0 : Nat) (s1 : Nat) (M : xM) : Option (Nat × xM) :=
  (isO O M s0 1).bind fun _ =>
  xcl (f_StringBuilder_append_256 O f s0 s1 M) fun x1 M1 =>
  (isO O M1 x1 1).bind fun _ =>
  xcl (f_StringBuilder_toString O f x1 M1) fun x2 M2 =>
  f_LRule_text_431 O f v0 v2 v3 x2 M2
set_option maxRecDepth 20000 in
theorem k_f_LRule_text_423 (O : Nat → Option va_E) (f d : Nat) (v0 : Nat) (v2 : Nat) (v3 : Nat) (s0 : Nat) (s1 : Nat) (M : xM) : xZ oR O (d + 7) 58 423 [(0, .ref v0), (2, .ref v2), (3, .ref v3)] [.ref s1, .ref s0] M (f_LRule_text_423 O f v0 v2 v3 s0 s1 M) := by
  unfold f_LRule_text_423
  refine xZ.callv (κ := oR) (av := [.ref s1]) (rest := []) (st' := fun x1 => [.ref x1]) (k0 := s0) (me := xm58) hP_58 rfl (Or.inl rfl) ⟨rfl, by decide⟩ rfl rfl (Nat.le_of_ble_eq_true rfl) (by decide) hP_256 (Nat.le_of_ble_eq_true rfl) (fun _ => rfl) (k_f_StringBuilder_append_256 O f (d + 0) s0 s1 M) (fun x1 M1 => ?_)
  refine xZ.callv (κ := oR) (av := []) (rest := []) (st' := fun x2 => [.ref x2]) (k0 := x1) (me := xm58) hP_58 rfl (Or.inl rfl) ⟨rfl, by decide⟩ rfl rfl (Nat.le_of_ble_eq_true rfl) (by decide) hP_276 (Nat.le_of_ble_eq_true rfl) (fun _ => rfl) (k_f_StringBuilder_toString O f (d + 1) x1 M1) (fun x2 M2 => ?_)
  refine xZ.adv (me := xm58) hP_58 1 (pc' := 431) (lv' := [(5, .ref x2), (0, .ref v0), (2, .ref v2), (3, .ref v3)]) (st' := []) rfl ?_
  exact xZ.sub (xsc (.tail _ (.head _)) (xsc (.tail _ (.tail _ (.head _))) (xsc (.tail _ (.tail _ (.tail _ (.head _)))) (xsc (.head _) xsn)))) (show ([5, 0, 2, 3] : List Nat).Nodup from by decide) (k_f_LRule_text_431 O f d v0 v2 v3 x2 M2)
def f_LRule_text_333 (O : Nat → Option va_E) (f : Nat) (v0 : Nat) (v2 : Nat) (v3 : Nat) (s0 : Nat) (M : xM) : Option (Nat × xM) :=
  (gJ O M v0 16 1).bind fun x1 =>
  if yw x1 = yw 3 then (
    xcl (nO M 1) fun x2 M1 =>
    xcl (f_StringBuilder_ctor O f x2 M1) fun _ M2 =>
    (isO O M2 x2 1).bind fun _ =>
    xcl (f_StringBuilder_append_256 O f x2 s0 M2) fun x4 M3 =>
    (gJ O M3 v0 16 4).bind fun x5 =>
    if yw x5 ≤ yw 0 then (
      (gJ O M3 v0 16 4).bind fun x6 =>
      if yw x6 = yw (-1) then (
        f_LRule_text_423 O f v0 v2 v3 x4 1000000050 M3
      ) else
      xcl (nO M3 1) fun x7 M4 =>
      xcl (f_StringBuilder_ctor O f x7 M4) fun _ M5 =>
      (isO O M5 x7 1).bind fun _ =>
      xcl (f_StringBuilder_append_256 O f x7 1000000052 M5) fun x9 M6 =>
      (gJ O M6 v0 16 4).bind fun x10 =>
      (isO O M6 x9 1).bind fun _ =>
      xcl (f_StringBuilder_append_285 O f x9 (-x10) M6) fun x11 M7 =>
      (isO O M7 x11 1).bind fun _ =>
      xcl (f_StringBuilder_toString O f x11 M7) fun x12 M8 =>
      f_LRule_text_423 O f v0 v2 v3 x4 x12 M8
    ) else
    xcl (nO M3 1) fun x13 M9 =>
    xcl (f_StringBuilder_ctor O f x13 M9) fun _ M10 =>
    (isO O M10 x13 1).bind fun _ =>
    xcl (f_StringBuilder_append_256 O f x13 1000000034 M10) fun x15 M11 =>
    (gJ O M11 v0 16 4).bind fun x16 =>
    (isO O M11 x15 1).bind fun _ =>
    xcl (f_StringBuilder_append_285 O f x15 x16 M11) fun x17 M12 =>
    (isO O M12 x17 1).bind fun _ =>
    xcl (f_StringBuilder_toString O f x17 M12) fun x18 M13 =>
    f_LRule_text_423 O f v0 v2 v3 x4 x18 M13
  ) else
  f_LRule_text_431 O f v0 v2 v3 s0 M
set_option maxRecDepth 20000 in
theorem k_f_LRule_text_333 (O : Nat → Option va_E) (f d : Nat) (v0 : Nat) (v2 : Nat) (v3 : Nat) (s0 : Nat) (M : xM) : xZ oR O (d + 7) 58 333 [(0, .ref v0), (2, .ref v2), (3, .ref v3)] [.ref s0] M (f_LRule_text_333 O f v0 v2 v3 s0 M) := by
  unfold f_LRule_text_333
  refine xZ.adv (me := xm58) hP_58 2 (pc' := 336) (lv' := [(5, .ref s0), (0, .ref v0), (2, .ref v2), (3, .ref v3)]) (st' := [.ref v0]) rfl ?_
  refine xZ.k_gJ (me := xm58) hP_58 rfl (fun x1 => ?_)
  refine xZ.adv (me := xm58) hP_58 1 (pc' := 340) (lv' := [(5, .ref s0), (0, .ref v0), (2, .ref v2), (3, .ref v3)]) (st' := [.int (3 : Int32), .int (yw x1)]) rfl ?_
  refine xZ.eqs (lv2 := [(5, .ref s0), (0, .ref v0), (2, .ref v2), (3, .ref v3)]) (st2 := [.int (yw 3), .int (yw x1)]) rfl (by simp only [yl_lit, yL_lit, yw_add, yw_sub, yw_mul, yw_neg, yl_add, yl_sub, yl_mul, cj_and, cj_or, cj_xor, cj_shl, cj_shr, cj_ushr, cj_div, cj_i2c, cj_i2b, cj_dc, ck_and, ck_or, ck_xor, ck_shl, ck_shr, ck_ushr, ck_i2l, ck_l2i, ck_cmp]) ?_
  refine xZ.jc_ne (me := xm58) hP_58 rfl (fun h1 => ?_) (fun h1 => ?_)
  · skip
    refine xZ.k_nO (me := xm58) hP_58 rfl rfl (fun x2 M1 => ?_)
    refine xZ.adv (me := xm58) hP_58 1 (pc' := 347) (lv' := [(5, .ref s0), (0, .ref v0), (2, .ref v2), (3, .ref v3)]) (st' := [.ref x2, .ref x2]) rfl ?_
    refine xZ.calli (κ := oU) (av := []) (rest := [.ref x2]) (st' := fun _ => [.ref x2]) (k0 := x2) (me := xm58) hP_58 rfl (Or.inl rfl) rfl rfl (Nat.le_of_ble_eq_true rfl) (by decide) hP_254 (Nat.le_of_ble_eq_true rfl) (fun _ => rfl) (k_f_StringBuilder_ctor O f (d + 5) x2 M1) (fun _ M2 => ?_)
    refine xZ.adv (me := xm58) hP_58 1 (pc' := 352) (lv' := [(5, .ref s0), (0, .ref v0), (2, .ref v2), (3, .ref v3)]) (st' := [.ref s0, .ref x2]) rfl ?_
    refine xZ.callv (κ := oR) (av := [.ref s0]) (rest := []) (st' := fun x4 => [.ref x4]) (k0 := x2) (me := xm58) hP_58 rfl (Or.inl rfl) ⟨rfl, by decide⟩ rfl rfl (Nat.le_of_ble_eq_true rfl) (by decide) hP_256 (Nat.le_of_ble_eq_true rfl) (fun _ => rfl) (k_f_StringBuilder_append_256 O f (d + 0) x2 s0 M2) (fun x4 M3 => ?_)
    refine xZ.adv (me := xm58) hP_58 1 (pc' := 356) (lv' := [(5, .ref s0), (0, .ref v0), (2, .ref v2), (3, .ref v3)]) (st' := [.ref v0, .ref x4]) rfl ?_
    refine xZ.k_gJ (me := xm58) hP_58 rfl (fun x5 => ?_)
    refine xZ.jf_le (me := xm58) hP_58 rfl (fun h2 => ?_) (fun h2 => ?_)
    · skip
      refine xZ.adv (me := xm58) hP_58 1 (pc' := 388) (lv' := [(5, .ref s0), (0, .ref v0), (2, .ref v2), (3, .ref v3)]) (st' := [.ref v0, .ref x4]) rfl ?_
      refine xZ.k_gJ (me := xm58) hP_58 rfl (fun x6 => ?_)
      refine xZ.adv (me := xm58) hP_58 1 (pc' := 392) (lv' := [(5, .ref s0), (0, .ref v0), (2, .ref v2), (3, .ref v3)]) (st' := [.int (-1 : Int32), .int (yw x6), .ref x4]) rfl ?_
      refine xZ.eqs (lv2 := [(5, .ref s0), (0, .ref v0), (2, .ref v2), (3, .ref v3)]) (st2 := [.int (yw (-1)), .int (yw x6), .ref x4]) rfl (by simp only [yl_lit, yL_lit, yw_add, yw_sub, yw_mul, yw_neg, yl_add, yl_sub, yl_mul, cj_and, cj_or, cj_xor, cj_shl, cj_shr, cj_ushr, cj_div, cj_i2c, cj_i2b, cj_dc, ck_and, ck_or, ck_xor, ck_shl, ck_shr, ck_ushr, ck_i2l, ck_l2i, ck_cmp]) ?_
      refine xZ.jc_ne (me := xm58) hP_58 rfl (fun h3 => ?_) (fun h3 => ?_)
      · skip
        refine xZ.adv (me := xm58) hP_58 2 (pc' := 423) (lv' := [(5, .ref s0), (0, .ref v0), (2, .ref v2), (3, .ref v3)]) (st' := [.ref 1000000050, .ref x4]) rfl ?_
        exact xZ.sub (xsc (.tail _ (.head _)) (xsc (.tail _ (.tail _ (.head _))) (xsc (.tail _ (.tail _ (.tail _ (.head _)))) xsn))) (show ([5, 0, 2, 3] : List Nat).Nodup from by decide) (k_f_LRule_text_423 O f d v0 v2 v3 x4 1000000050 M3)
      · skip
        refine xZ.k_nO (me := xm58) hP_58 rfl rfl (fun x7 M4 => ?_)
        refine xZ.adv (me := xm58) hP_58 1 (pc' := 404) (lv' := [(5, .ref s0), (0, .ref v0), (2, .ref v2), (3, .ref v3)]) (st' := [.ref x7, .ref x7, .ref x4]) rfl ?_
        refine xZ.calli (κ := oU) (av := []) (rest := [.ref x7, .ref x4]) (st' := fun _ => [.ref x7, .ref x4]) (k0 := x7) (me := xm58) hP_58 rfl (Or.inl rfl) rfl rfl (Nat.le_of_ble_eq_true rfl) (by decide) hP_254 (Nat.le_of_ble_eq_true rfl) (fun _ => rfl) (k_f_StringBuilder_ctor O f (d + 5) x7 M4) (fun _ M5 => ?_)
        refine xZ.adv (me := xm58) hP_58 1 (pc' := 409) (lv' := [(5, .ref s0), (0, .ref v0), (2, .ref v2), (3, .ref v3)]) (st' := [.ref 1000000052, .ref x7, .ref x4]) rfl ?_
        refine xZ.callv (κ := oR) (av := [.ref 1000000052]) (rest := [.ref x4]) (st' := fun x9 => [.ref x9, .ref x4]) (k0 := x7) (me := xm58) hP_58 rfl (Or.inl rfl) ⟨rfl, by decide⟩ rfl rfl (Nat.le_of_ble_eq_true rfl) (by decide) hP_256 (Nat.le_of_ble_eq_true rfl) (fun _ => rfl) (k_f_StringBuilder_append_256 O f (d + 0) x7 1000000052 M5) (fun x9 M6 => ?_)
        refine xZ.adv (me := xm58) hP_58 1 (pc' := 413) (lv' := [(5, .ref s0), (0, .ref v0), (2, .ref v2), (3, .ref v3)]) (st' := [.ref v0, .ref x9, .ref x4]) rfl ?_
        refine xZ.k_gJ (me := xm58) hP_58 rfl (fun x10 => ?_)
        refine xZ.adv (me := xm58) hP_58 1 (pc' := 417) (lv' := [(5, .ref s0), (0, .ref v0), (2, .ref v2), (3, .ref v3)]) (st' := [.int (-(yw x10)), .ref x9, .ref x4]) rfl ?_
        refine xZ.eqs (lv2 := [(5, .ref s0), (0, .ref v0), (2, .ref v2), (3, .ref v3)]) (st2 := [.int (yw (-x10)), .ref x9, .ref x4]) rfl (by simp only [yl_lit, yL_lit, yw_add, yw_sub, yw_mul, yw_neg, yl_add, yl_sub, yl_mul, cj_and, cj_or, cj_xor, cj_shl, cj_shr, cj_ushr, cj_div, cj_i2c, cj_i2b, cj_dc, ck_and, ck_or, ck_xor, ck_shl, ck_shr, ck_ushr, ck_i2l, ck_l2i, ck_cmp]) ?_
        refine xZ.callv (κ := oR) (av := [.int (yw (-x10))]) (rest := [.ref x4]) (st' := fun x11 => [.ref x11, .ref x4]) (k0 := x9) (me := xm58) hP_58 rfl (Or.inl rfl) ⟨rfl, by decide⟩ rfl rfl (Nat.le_of_ble_eq_true rfl) (by decide) hP_285 (Nat.le_of_ble_eq_true rfl) (fun _ => rfl) (k_f_StringBuilder_append_285 O f (d + 1) x9 (-x10) M6) (fun x11 M7 => ?_)
        refine xZ.callv (κ := oR) (av := []) (rest := [.ref x4]) (st' := fun x12 => [.ref x12, .ref x4]) (k0 := x11) (me := xm58) hP_58 rfl (Or.inl rfl) ⟨rfl, by decide⟩ rfl rfl (Nat.le_of_ble_eq_true rfl) (by decide) hP_276 (Nat.le_of_ble_eq_true rfl) (fun _ => rfl) (k_f_StringBuilder_toString O f (d + 1) x11 M7) (fun x12 M8 => ?_)
        exact xZ.sub (xsc (.tail _ (.head _)) (xsc (.tail _ (.tail _ (.head _))) (xsc (.tail _ (.tail _ (.tail _ (.head _)))) xsn))) (show ([5, 0, 2, 3] : List Nat).Nodup from by decide) (k_f_LRule_text_423 O f d v0 v2 v3 x4 x12 M8)
    · skip
      refine xZ.k_nO (me := xm58) hP_58 rfl rfl (fun x13 M9 => ?_)
      refine xZ.adv (me := xm58) hP_58 1 (pc' := 366) (lv' := [(5, .ref s0), (0, .ref v0), (2, .ref v2), (3, .ref v3)]) (st' := [.ref x13, .ref x13, .ref x4]) rfl ?_
      refine xZ.calli (κ := oU) (av := []) (rest := [.ref x13, .ref x4]) (st' := fun _ => [.ref x13, .ref x4]) (k0 := x13) (me := xm58) hP_58 rfl (Or.inl rfl) rfl rfl (Nat.le_of_ble_eq_true rfl) (by decide) hP_254 (Nat.le_of_ble_eq_true rfl) (fun _ => rfl) (k_f_StringBuilder_ctor O f (d + 5) x13 M9) (fun _ M10 => ?_)
      refine xZ.adv (me := xm58) hP_58 1 (pc' := 371) (lv' := [(5, .ref s0), (0, .ref v0), (2, .ref v2), (3, .ref v3)]) (st' := [.ref 1000000034, .ref x13, .ref x4]) rfl ?_
      refine xZ.callv (κ := oR) (av := [.ref 1000000034]) (rest := [.ref x4]) (st' := fun x15 => [.ref x15, .ref x4]) (k0 := x13) (me := xm58) hP_58 rfl (Or.inl rfl) ⟨rfl, by decide⟩ rfl rfl (Nat.le_of_ble_eq_true rfl) (by decide) hP_256 (Nat.le_of_ble_eq_true rfl) (fun _ => rfl) (k_f_StringBuilder_append_256 O f (d + 0) x13 1000000034 M10) (fun x15 M11 => ?_)
      refine xZ.adv (me := xm58) hP_58 1 (pc' := 375) (lv' := [(5, .ref s0), (0, .ref v0), (2, .ref v2), (3, .ref v3)]) (st' := [.ref v0, .ref x15, .ref x4]) rfl ?_
      refine xZ.k_gJ (me := xm58) hP_58 rfl (fun x16 => ?_)
      refine xZ.callv (κ := oR) (av := [.int (yw x16)]) (rest := [.ref x4]) (st' := fun x17 => [.ref x17, .ref x4]) (k0 := x15) (me := xm58) hP_58 rfl (Or.inl rfl) ⟨rfl, by decide⟩ rfl rfl (Nat.le_of_ble_eq_true rfl) (by decide) hP_285 (Nat.le_of_ble_eq_true rfl) (fun _ => rfl) (k_f_StringBuilder_append_285 O f (d + 1) x15 x16 M11) (fun x17 M12 => ?_)
      refine xZ.callv (κ := oR) (av := []) (rest := [.ref x4]) (st' := fun x18 => [.ref x18, .ref x4]) (k0 := x17) (me := xm58) hP_58 rfl (Or.inl rfl) ⟨rfl, by decide⟩ rfl rfl (Nat.le_of_ble_eq_true rfl) (by decide) hP_276 (Nat.le_of_ble_eq_true rfl) (fun _ => rfl) (k_f_StringBuilder_toString O f (d + 1) x17 M12) (fun x18 M13 => ?_)
      refine xZ.adv (me := xm58) hP_58 1 (pc' := 423) (lv' := [(5, .ref s0), (0, .ref v0), (2, .ref v2), (3, .ref v3)]) (st' := [.ref x18, .ref x4]) rfl ?_
      exact xZ.sub (xsc (.tail _ (.head _)) (xsc (.tail _ (.tail _ (.head _))) (xsc (.tail _ (.tail _ (.tail _ (.head _)))) xsn))) (show ([5, 0, 2, 3] : List Nat).Nodup from by decide) (k_f_LRule_text_423 O f d v0 v2 v3 x4 x18 M13)
  · skip
    exact xZ.sub (xsc (.tail _ (.head _)) (xsc (.tail _ (.tail _ (.head _))) (xsc (.tail _ (.tail _ (.tail _ (.head _)))) (xsc (.head _) xsn)))) (show ([5, 0, 2, 3] : List Nat).Nodup from by decide) (k_f_LRule_text_431 O f d v0 v2 v3 s0 M)
def f_LRule_text_196 (O : Nat → Option va_E) (f : Nat) (v0 : Nat) (v2 : Nat) (v3 : Nat) (s0 : Nat) (s1 : Nat) (M : xM) : Option (Nat × xM) :=
  (isO O M s0 1).bind fun _ =>
  xcl (f_StringBuilder_append_256 O f s0 s1 M) fun x1 M1 =>
  (isO O M1 x1 1).bind fun _ =>
  xcl (f_StringBuilder_toString O f x1 M1) fun x2 M2 =>
  (gJ O M2 v0 16 1).bind fun x3 =>
  if yw x3 = yw 0 then (
    f_LRule_text_333 O f v0 v2 v3 1000000040 M2
  ) else
  (gJ O M2 v0 16 1).bind fun x4 =>
  if yw x4 = yw 1 then (
    xcl (nO M2 1) fun x5 M3 =>
    xcl (f_StringBuilder_ctor O f x5 M3) fun _ M4 =>
    (isO O M4 x5 1).bind fun _ =>
    xcl (f_StringBuilder_append_256 O f x5 x2 M4) fun x7 M5 =>
    (isO O M5 x7 1).bind fun _ =>
    xcl (f_StringBuilder_append_256 O f x7 1000000042 M5) fun x8 M6 =>
    (isO O M6 x8 1).bind fun _ =>
    xcl (f_StringBuilder_toString O f x8 M6) fun x9 M7 =>
    f_LRule_text_333 O f v0 v2 v3 x9 M7
  ) else
  (gJ O M2 v0 16 1).bind fun x10 =>
  if yw x10 = yw 2 then (
    xcl (nO M2 1) fun x11 M8 =>
    xcl (f_StringBuilder_ctor O f x11 M8) fun _ M9 =>
    (isO O M9 x11 1).bind fun _ =>
    xcl (f_StringBuilder_append_256 O f x11 x2 M9) fun x13 M10 =>
    (isO O M10 x13 1).bind fun _ =>
    xcl (f_StringBuilder_append_256 O f x13 1000000044 M10) fun x14 M11 =>
    (isO O M11 x14 1).bind fun _ =>
    xcl (f_StringBuilder_append_256 O f x14 v3 M11) fun x15 M12 =>
    (isO O M12 x15 1).bind fun _ =>
    xcl (f_StringBuilder_toString O f x15 M12) fun x16 M13 =>
    f_LRule_text_333 O f v0 v2 v3 x16 M13
  ) else
  (gJ O M2 v0 16 1).bind fun x17 =>
  if yw x17 = yw 5 then (
    xcl (nO M2 1) fun x18 M14 =>
    xcl (f_StringBuilder_ctor O f x18 M14) fun _ M15 =>
    (isO O M15 x18 1).bind fun _ =>
    xcl (f_StringBuilder_append_256 O f x18 x2 M15) fun x20 M16 =>
    (isO O M16 x20 1).bind fun _ =>
    xcl (f_StringBuilder_append_256 O f x20 1000000046 M16) fun x21 M17 =>
    (isO O M17 x21 1).bind fun _ =>
    xcl (f_StringBuilder_toString O f x21 M17) fun x22 M18 =>
    f_LRule_text_333 O f v0 v2 v3 x22 M18
  ) else
  xcl (nO M2 1) fun x23 M19 =>
  xcl (f_StringBuilder_ctor O f x23 M19) fun _ M20 =>
  (isO O M20 x23 1).bind fun _ =>
  xcl (f_StringBuilder_append_256 O f x23 x2 M20) fun x25 M21 =>
  (isO O M21 x25 1).bind fun _ =>
  xcl (f_StringBuilder_append_256 O f x25 1000000048 M21) fun x26 M22 =>
  (isO O M22 x26 1).bind fun _ =>
  xcl (f_StringBuilder_toString O f x26 M22) fun x27 M23 =>
  f_LRule_text_333 O f v0 v2 v3 x27 M23
set_option maxRecDepth 20000 in
theorem k_f_LRule_text_196 (O : Nat → Option va_E) (f d : Nat) (v0 : Nat) (v2 : Nat) (v3 : Nat) (s0 : Nat) (s1 : Nat) (M : xM) : xZ oR O (d + 7) 58 196 [(0, .ref v0), (2, .ref v2), (3, .ref v3)] [.ref s1, .ref s0] M (f_LRule_text_196 O f v0 v2 v3 s0 s1 M) := by
  unfold f_LRule_text_196
  refine xZ.callv (κ := oR) (av := [.ref s1]) (rest := []) (st' := fun x1 => [.ref x1]) (k0 := s0) (me := xm58) hP_58 rfl (Or.inl rfl) ⟨rfl, by decide⟩ rfl rfl (Nat.le_of_ble_eq_true rfl) (by decide) hP_256 (Nat.le_of_ble_eq_true rfl) (fun _ => rfl) (k_f_StringBuilder_append_256 O f (d + 0) s0 s1 M) (fun x1 M1 => ?_)
  refine xZ.callv (κ := oR) (av := []) (rest := []) (st' := fun x2 => [.ref x2]) (k0 := x1) (me := xm58) hP_58 rfl (Or.inl rfl) ⟨rfl, by decide⟩ rfl rfl (Nat.le_of_ble_eq_true rfl) (by decide) hP_276 (Nat.le_of_ble_eq_true rfl) (fun _ => rfl) (k_f_StringBuilder_toString O f (d + 1) x1 M1) (fun x2 M2 => ?_)
  refine xZ.adv (me := xm58) hP_58 2 (pc' := 205) (lv' := [(4, .ref x2), (0, .ref v0), (2, .ref v2), (3, .ref v3)]) (st' := [.ref v0]) rfl ?_
  refine xZ.k_gJ (me := xm58) hP_58 rfl (fun x3 => ?_)
  refine xZ.jf_ne (me := xm58) hP_58 rfl (fun h1 => ?_) (fun h1 => ?_)
  · skip
    refine xZ.adv (me := xm58) hP_58 2 (pc' := 333) (lv' := [(4, .ref x2), (0, .ref v0), (2, .ref v2), (3, .ref v3)]) (st' := [.ref 1000000040]) rfl ?_
    exact xZ.sub (xsc (.tail _ (.head _)) (xsc (.tail _ (.tail _ (.head _))) (xsc (.tail _ (.tail _ (.tail _ (.head _)))) xsn))) (show ([4, 0, 2, 3] : List Nat).Nodup from by decide) (k_f_LRule_text_333 O f d v0 v2 v3 1000000040 M2)
  · skip
    refine xZ.adv (me := xm58) hP_58 1 (pc' := 217) (lv' := [(4, .ref x2), (0, .ref v0), (2, .ref v2), (3, .ref v3)]) (st' := [.ref v0]) rfl ?_
    refine xZ.k_gJ (me := xm58) hP_58 rfl (fun x4 => ?_)
    refine xZ.adv (me := xm58) hP_58 1 (pc' := 221) (lv' := [(4, .ref x2), (0, .ref v0), (2, .ref v2), (3, .ref v3)]) (st' := [.int (1 : Int32), .int (yw x4)]) rfl ?_
    refine xZ.eqs (lv2 := [(4, .ref x2), (0, .ref v0), (2, .ref v2), (3, .ref v3)]) (st2 := [.int (yw 1), .int (yw x4)]) rfl (by simp only [yl_lit, yL_lit, yw_add, yw_sub, yw_mul, yw_neg, yl_add, yl_sub, yl_mul, cj_and, cj_or, cj_xor, cj_shl, cj_shr, cj_ushr, cj_div, cj_i2c, cj_i2b, cj_dc, ck_and, ck_or, ck_xor, ck_shl, ck_shr, ck_ushr, ck_i2l, ck_l2i, ck_cmp]) ?_
    refine xZ.jc_ne (me := xm58) hP_58 rfl (fun h2 => ?_) (fun h2 => ?_)
    · skip
      refine xZ.k_nO (me := xm58) hP_58 rfl rfl (fun x5 M3 => ?_)
      refine xZ.adv (me := xm58) hP_58 1 (pc' := 228) (lv' := [(4, .ref x2), (0, .ref v0), (2, .ref v2), (3, .ref v3)]) (st' := [.ref x5, .ref x5]) rfl ?_
      refine xZ.calli (κ := oU) (av := []) (rest := [.ref x5]) (st' := fun _ => [.ref x5]) (k0 := x5) (me := xm58) hP_58 rfl (Or.inl rfl) rfl rfl (Nat.le_of_ble_eq_true rfl) (by decide) hP_254 (Nat.le_of_ble_eq_true rfl) (fun _ => rfl) (k_f_StringBuilder_ctor O f (d + 5) x5 M3) (fun _ M4 => ?_)
      refine xZ.adv (me := xm58) hP_58 1 (pc' := 233) (lv' := [(4, .ref x2), (0, .ref v0), (2, .ref v2), (3, .ref v3)]) (st' := [.ref x2, .ref x5]) rfl ?_
      refine xZ.callv (κ := oR) (av := [.ref x2]) (rest := []) (st' := fun x7 => [.ref x7]) (k0 := x5) (me := xm58) hP_58 rfl (Or.inl rfl) ⟨rfl, by decide⟩ rfl rfl (Nat.le_of_ble_eq_true rfl) (by decide) hP_256 (Nat.le_of_ble_eq_true rfl) (fun _ => rfl) (k_f_StringBuilder_append_256 O f (d + 0) x5 x2 M4) (fun x7 M5 => ?_)
      refine xZ.adv (me := xm58) hP_58 1 (pc' := 238) (lv' := [(4, .ref x2), (0, .ref v0), (2, .ref v2), (3, .ref v3)]) (st' := [.ref 1000000042, .ref x7]) rfl ?_
      refine xZ.callv (κ := oR) (av := [.ref 1000000042]) (rest := []) (st' := fun x8 => [.ref x8]) (k0 := x7) (me := xm58) hP_58 rfl (Or.inl rfl) ⟨rfl, by decide⟩ rfl rfl (Nat.le_of_ble_eq_true rfl) (by decide) hP_256 (Nat.le_of_ble_eq_true rfl) (fun _ => rfl) (k_f_StringBuilder_append_256 O f (d + 0) x7 1000000042 M5) (fun x8 M6 => ?_)
      refine xZ.callv (κ := oR) (av := []) (rest := []) (st' := fun x9 => [.ref x9]) (k0 := x8) (me := xm58) hP_58 rfl (Or.inl rfl) ⟨rfl, by decide⟩ rfl rfl (Nat.le_of_ble_eq_true rfl) (by decide) hP_276 (Nat.le_of_ble_eq_true rfl) (fun _ => rfl) (k_f_StringBuilder_toString O f (d + 1) x8 M6) (fun x9 M7 => ?_)
      refine xZ.adv (me := xm58) hP_58 1 (pc' := 333) (lv' := [(4, .ref x2), (0, .ref v0), (2, .ref v2), (3, .ref v3)]) (st' := [.ref x9]) rfl ?_
      exact xZ.sub (xsc (.tail _ (.head _)) (xsc (.tail _ (.tail _ (.head _))) (xsc (.tail _ (.tail _ (.tail _ (.head _)))) xsn))) (show ([4, 0, 2, 3] : List Nat).Nodup from by decide) (k_f_LRule_text_333 O f d v0 v2 v3 x9 M7)
    · skip
      refine xZ.adv (me := xm58) hP_58 1 (pc' := 248) (lv' := [(4, .ref x2), (0, .ref v0), (2, .ref v2), (3, .ref v3)]) (st' := [.ref v0]) rfl ?_
      refine xZ.k_gJ (me := xm58) hP_58 rfl (fun x10 => ?_)
      refine xZ.adv (me := xm58) hP_58 1 (pc' := 252) (lv' := [(4, .ref x2), (0, .ref v0), (2, .ref v2), (3, .ref v3)]) (st' := [.int (2 : Int32), .int (yw x10)]) rfl ?_
      refine xZ.eqs (lv2 := [(4, .ref x2), (0, .ref v0), (2, .ref v2), (3, .ref v3)]) (st2 := [.int (yw 2), .int (yw x10)]) rfl (by simp only [yl_lit, yL_lit, yw_add, yw_sub, yw_mul, yw_neg, yl_add, yl_sub, yl_mul, cj_and, cj_or, cj_xor, cj_shl, cj_shr, cj_ushr, cj_div, cj_i2c, cj_i2b, cj_dc, ck_and, ck_or, ck_xor, ck_shl, ck_shr, ck_ushr, ck_i2l, ck_l2i, ck_cmp]) ?_
      refine xZ.jc_ne (me := xm58) hP_58 rfl (fun h3 => ?_) (fun h3 => ?_)
      · skip
        refine xZ.k_nO (me := xm58) hP_58 rfl rfl (fun x11 M8 => ?_)
        refine xZ.adv (me := xm58) hP_58 1 (pc' := 259) (lv' := [(4, .ref x2), (0, .ref v0), (2, .ref v2), (3, .ref v3)]) (st' := [.ref x11, .ref x11]) rfl ?_
        refine xZ.calli (κ := oU) (av := []) (rest := [.ref x11]) (st' := fun _ => [.ref x11]) (k0 := x11) (me := xm58) hP_58 rfl (Or.inl rfl) rfl rfl (Nat.le_of_ble_eq_true rfl) (by decide) hP_254 (Nat.le_of_ble_eq_true rfl) (fun _ => rfl) (k_f_StringBuilder_ctor O f (d + 5) x11 M8) (fun _ M9 => ?_)
        refine xZ.adv (me := xm58) hP_58 1 (pc' := 264) (lv' := [(4, .ref x2), (0, .ref v0), (2, .ref v2), (3, .ref v3)]) (st' := [.ref x2, .ref x11]) rfl ?_
        refine xZ.callv (κ := oR) (av := [.ref x2]) (rest := []) (st' := fun x13 => [.ref x13]) (k0 := x11) (me := xm58) hP_58 rfl (Or.inl rfl) ⟨rfl, by decide⟩ rfl rfl (Nat.le_of_ble_eq_true rfl) (by decide) hP_256 (Nat.le_of_ble_eq_true rfl) (fun _ => rfl) (k_f_StringBuilder_append_256 O f (d + 0) x11 x2 M9) (fun x13 M10 => ?_)
        refine xZ.adv (me := xm58) hP_58 1 (pc' := 269) (lv' := [(4, .ref x2), (0, .ref v0), (2, .ref v2), (3, .ref v3)]) (st' := [.ref 1000000044, .ref x13]) rfl ?_
        refine xZ.callv (κ := oR) (av := [.ref 1000000044]) (rest := []) (st' := fun x14 => [.ref x14]) (k0 := x13) (me := xm58) hP_58 rfl (Or.inl rfl) ⟨rfl, by decide⟩ rfl rfl (Nat.le_of_ble_eq_true rfl) (by decide) hP_256 (Nat.le_of_ble_eq_true rfl) (fun _ => rfl) (k_f_StringBuilder_append_256 O f (d + 0) x13 1000000044 M10) (fun x14 M11 => ?_)
        refine xZ.adv (me := xm58) hP_58 1 (pc' := 273) (lv' := [(4, .ref x2), (0, .ref v0), (2, .ref v2), (3, .ref v3)]) (st' := [.ref v3, .ref x14]) rfl ?_
        refine xZ.callv (κ := oR) (av := [.ref v3]) (rest := []) (st' := fun x15 => [.ref x15]) (k0 := x14) (me := xm58) hP_58 rfl (Or.inl rfl) ⟨rfl, by decide⟩ rfl rfl (Nat.le_of_ble_eq_true rfl) (by decide) hP_256 (Nat.le_of_ble_eq_true rfl) (fun _ => rfl) (k_f_StringBuilder_append_256 O f (d + 0) x14 v3 M11) (fun x15 M12 => ?_)
        refine xZ.callv (κ := oR) (av := []) (rest := []) (st' := fun x16 => [.ref x16]) (k0 := x15) (me := xm58) hP_58 rfl (Or.inl rfl) ⟨rfl, by decide⟩ rfl rfl (Nat.le_of_ble_eq_true rfl) (by decide) hP_276 (Nat.le_of_ble_eq_true rfl) (fun _ => rfl) (k_f_StringBuilder_toString O f (d + 1) x15 M12) (fun x16 M13 => ?_)
        refine xZ.adv (me := xm58) hP_58 1 (pc' := 333) (lv' := [(4, .ref x2), (0, .ref v0), (2, .ref v2), (3, .ref v3)]) (st' := [.ref x16]) rfl ?_
        exact xZ.sub (xsc (.tail _ (.head _)) (xsc (.tail _ (.tail _ (.head _))) (xsc (.tail _ (.tail _ (.tail _ (.head _)))) xsn))) (show ([4, 0, 2, 3] : List Nat).Nodup from by decide) (k_f_LRule_text_333 O f d v0 v2 v3 x16 M13)
      · skip
        refine xZ.adv (me := xm58) hP_58 1 (pc' := 283) (lv' := [(4, .ref x2), (0, .ref v0), (2, .ref v2), (3, .ref v3)]) (st' := [.ref v0]) rfl ?_
        refine xZ.k_gJ (me := xm58) hP_58 rfl (fun x17 => ?_)
        refine xZ.adv (me := xm58) hP_58 1 (pc' := 287) (lv' := [(4, .ref x2), (0, .ref v0), (2, .ref v2), (3, .ref v3)]) (st' := [.int (5 : Int32), .int (yw x17)]) rfl ?_
        refine xZ.eqs (lv2 := [(4, .ref x2), (0, .ref v0), (2, .ref v2), (3, .ref v3)]) (st2 := [.int (yw 5), .int (yw x17)]) rfl (by simp only [yl_lit, yL_lit, yw_add, yw_sub, yw_mul, yw_neg, yl_add, yl_sub, yl_mul, cj_and, cj_or, cj_xor, cj_shl, cj_shr, cj_ushr, cj_div, cj_i2c, cj_i2b, cj_dc, ck_and, ck_or, ck_xor, ck_shl, ck_shr, ck_ushr, ck_i2l, ck_l2i, ck_cmp]) ?_
        refine xZ.jc_ne (me := xm58) hP_58 rfl (fun h4 => ?_) (fun h4 => ?_)
        · skip
          refine xZ.k_nO (me := xm58) hP_58 rfl rfl (fun x18 M14 => ?_)
          refine xZ.adv (me := xm58) hP_58 1 (pc' := 294) (lv' := [(4, .ref x2), (0, .ref v0), (2, .ref v2), (3, .ref v3)]) (st' := [.ref x18, .ref x18]) rfl ?_
          refine xZ.calli (κ := oU) (av := []) (rest := [.ref x18]) (st' := fun _ => [.ref x18]) (k0 := x18) (me := xm58) hP_58 rfl (Or.inl rfl) rfl rfl (Nat.le_of_ble_eq_true rfl) (by decide) hP_254 (Nat.le_of_ble_eq_true rfl) (fun _ => rfl) (k_f_StringBuilder_ctor O f (d + 5) x18 M14) (fun _ M15 => ?_)
          refine xZ.adv (me := xm58) hP_58 1 (pc' := 299) (lv' := [(4, .ref x2), (0, .ref v0), (2, .ref v2), (3, .ref v3)]) (st' := [.ref x2, .ref x18]) rfl ?_
          refine xZ.callv (κ := oR) (av := [.ref x2]) (rest := []) (st' := fun x20 => [.ref x20]) (k0 := x18) (me := xm58) hP_58 rfl (Or.inl rfl) ⟨rfl, by decide⟩ rfl rfl (Nat.le_of_ble_eq_true rfl) (by decide) hP_256 (Nat.le_of_ble_eq_true rfl) (fun _ => rfl) (k_f_StringBuilder_append_256 O f (d + 0) x18 x2 M15) (fun x20 M16 => ?_)
          refine xZ.adv (me := xm58) hP_58 1 (pc' := 304) (lv' := [(4, .ref x2), (0, .ref v0), (2, .ref v2), (3, .ref v3)]) (st' := [.ref 1000000046, .ref x20]) rfl ?_
          refine xZ.callv (κ := oR) (av := [.ref 1000000046]) (rest := []) (st' := fun x21 => [.ref x21]) (k0 := x20) (me := xm58) hP_58 rfl (Or.inl rfl) ⟨rfl, by decide⟩ rfl rfl (Nat.le_of_ble_eq_true rfl) (by decide) hP_256 (Nat.le_of_ble_eq_true rfl) (fun _ => rfl) (k_f_StringBuilder_append_256 O f (d + 0) x20 1000000046 M16) (fun x21 M17 => ?_)
          refine xZ.callv (κ := oR) (av := []) (rest := []) (st' := fun x22 => [.ref x22]) (k0 := x21) (me := xm58) hP_58 rfl (Or.inl rfl) ⟨rfl, by decide⟩ rfl rfl (Nat.le_of_ble_eq_true rfl) (by decide) hP_276 (Nat.le_of_ble_eq_true rfl) (fun _ => rfl) (k_f_StringBuilder_toString O f (d + 1) x21 M17) (fun x22 M18 => ?_)
          refine xZ.adv (me := xm58) hP_58 1 (pc' := 333) (lv' := [(4, .ref x2), (0, .ref v0), (2, .ref v2), (3, .ref v3)]) (st' := [.ref x22]) rfl ?_
          exact xZ.sub (xsc (.tail _ (.head _)) (xsc (.tail _ (.tail _ (.head _))) (xsc (.tail _ (.tail _ (.tail _ (.head _)))) xsn))) (show ([4, 0, 2, 3] : List Nat).Nodup from by decide) (k_f_LRule_text_333 O f d v0 v2 v3 x22 M18)
        · skip
          refine xZ.k_nO (me := xm58) hP_58 rfl rfl (fun x23 M19 => ?_)
          refine xZ.adv (me := xm58) hP_58 1 (pc' := 317) (lv' := [(4, .ref x2), (0, .ref v0), (2, .ref v2), (3, .ref v3)]) (st' := [.ref x23, .ref x23]) rfl ?_
          refine xZ.calli (κ := oU) (av := []) (rest := [.ref x23]) (st' := fun _ => [.ref x23]) (k0 := x23) (me := xm58) hP_58 rfl (Or.inl rfl) rfl rfl (Nat.le_of_ble_eq_true rfl) (by decide) hP_254 (Nat.le_of_ble_eq_true rfl) (fun _ => rfl) (k_f_StringBuilder_ctor O f (d + 5) x23 M19) (fun _ M20 => ?_)
          refine xZ.adv (me := xm58) hP_58 1 (pc' := 322) (lv' := [(4, .ref x2), (0, .ref v0), (2, .ref v2), (3, .ref v3)]) (st' := [.ref x2, .ref x23]) rfl ?_
          refine xZ.callv (κ := oR) (av := [.ref x2]) (rest := []) (st' := fun x25 => [.ref x25]) (k0 := x23) (me := xm58) hP_58 rfl (Or.inl rfl) ⟨rfl, by decide⟩ rfl rfl (Nat.le_of_ble_eq_true rfl) (by decide) hP_256 (Nat.le_of_ble_eq_true rfl) (fun _ => rfl) (k_f_StringBuilder_append_256 O f (d + 0) x23 x2 M20) (fun x25 M21 => ?_)
          refine xZ.adv (me := xm58) hP_58 1 (pc' := 327) (lv' := [(4, .ref x2), (0, .ref v0), (2, .ref v2), (3, .ref v3)]) (st' := [.ref 1000000048, .ref x25]) rfl ?_
          refine xZ.callv (κ := oR) (av := [.ref 1000000048]) (rest := []) (st' := fun x26 => [.ref x26]) (k0 := x25) (me := xm58) hP_58 rfl (Or.inl rfl) ⟨rfl, by decide⟩ rfl rfl (Nat.le_of_ble_eq_true rfl) (by decide) hP_256 (Nat.le_of_ble_eq_true rfl) (fun _ => rfl) (k_f_StringBuilder_append_256 O f (d + 0) x25 1000000048 M21) (fun x26 M22 => ?_)
          refine xZ.callv (κ := oR) (av := []) (rest := []) (st' := fun x27 => [.ref x27]) (k0 := x26) (me := xm58) hP_58 rfl (Or.inl rfl) ⟨rfl, by decide⟩ rfl rfl (Nat.le_of_ble_eq_true rfl) (by decide) hP_276 (Nat.le_of_ble_eq_true rfl) (fun _ => rfl) (k_f_StringBuilder_toString O f (d + 1) x26 M22) (fun x27 M23 => ?_)
          exact xZ.sub (xsc (.tail _ (.head _)) (xsc (.tail _ (.tail _ (.head _))) (xsc (.tail _ (.tail _ (.tail _ (.head _)))) xsn))) (show ([4, 0, 2, 3] : List Nat).Nodup from by decide) (k_f_LRule_text_333 O f d v0 v2 v3 x27 M23)
def f_LRule_text_78 (O : Nat → Option va_E) (f : Nat) : Nat → Nat → Nat → Nat → Nat → Int → xM → Option (Nat × xM)
  | 0, _, _, _, _, _, _ => none
  | n + 1, v0, v1, v2, v3, v4, M =>
    if yw 7 ≤ yw v4 then (
      xcl (nO M 1) fun x1 M1 =>
      xcl (f_StringBuilder_ctor O f x1 M1) fun _ M2 =>
      (isO O M2 x1 1).bind fun _ =>
      xcl (f_StringBuilder_append_256 O f x1 1000000038 M2) fun x3 M3 =>
      (gJ O M3 v0 16 2).bind fun x4 =>
      if yw x4 ≤ yw 1 then (
        f_LRule_text_196 O f v0 v2 v3 x3 1000000034 M3
      ) else
      xcl (nO M3 1) fun x5 M4 =>
      xcl (f_StringBuilder_ctor O f x5 M4) fun _ M5 =>
      (gJ O M5 v0 16 2).bind fun x7 =>
      (isO O M5 x5 1).bind fun _ =>
      xcl (f_StringBuilder_append_285 O f x5 x7 M5) fun x8 M6 =>
      (isO O M6 x8 1).bind fun _ =>
      xcl (f_StringBuilder_append_256 O f x8 1000000036 M6) fun x9 M7 =>
      (isO O M7 x9 1).bind fun _ =>
      xcl (f_StringBuilder_toString O f x9 M7) fun x10 M8 =>
      f_LRule_text_196 O f v0 v2 v3 x3 x10 M8
    ) else
    xcl (nO M 1) fun x11 M9 =>
    xcl (f_StringBuilder_ctor O f x11 M9) fun _ M10 =>
    (isO O M10 x11 1).bind fun _ =>
    xcl (f_StringBuilder_append_256 O f x11 v3 M10) fun x13 M11 =>
    (gJ O M11 v0 16 3).bind fun x14 =>
    if yw (jand (jshr x14 (jand v4 31)) 1) = yw 1 then (
      xcl (nO M11 1) fun x15 M12 =>
      xcl (f_StringBuilder_ctor O f x15 M12) fun _ M13 =>
      (isO O M13 x15 1).bind fun _ =>
      xcl (f_StringBuilder_append_256 O f x15 1000000036 M13) fun x17 M14 =>
      (aJR O M14 v1 v4).bind fun x18 =>
      (isO O M14 x17 1).bind fun _ =>
      xcl (f_StringBuilder_append_256 O f x17 x18 M14) fun x19 M15 =>
      (isO O M15 x19 1).bind fun _ =>
      xcl (f_StringBuilder_toString O f x19 M15) fun x20 M16 =>
      f_LRule_text_136 O f (f_LRule_text_78 O f n) v0 v1 v2 v4 x13 x20 M16
    ) else
    f_LRule_text_136 O f (f_LRule_text_78 O f n) v0 v1 v2 v4 x13 1000000034 M11
set_option maxRecDepth 20000 in
theorem k_f_LRule_text_78 (O : Nat → Option va_E) (f d : Nat) : ∀ (n : Nat) (v0 : Nat) (v1 : Nat) (v2 : Nat) (v3 : Nat) (v4 : Int) (M : xM), xZ oR O (d + 7) 58 78 [(0, .ref v0), (1, .ref v1), (2, .ref v2), (3, .ref v3), (4, .int (yw v4))] [] M (f_LRule_text_78 O f n v0 v1 v2 v3 v4 M) := by
  intro n
  induction n with
  | zero =>
    intro v0 v1 v2 v3 v4 M
    exact xZ.no
  | succ n ih =>
    intro v0 v1 v2 v3 v4 M
    unfold f_LRule_text_78
    refine xZ.adv (me := xm58) hP_58 2 (pc' := 82) (lv' := [(0, .ref v0), (1, .ref v1), (2, .ref v2), (3, .ref v3), (4, .int (yw v4))]) (st' := [.int (7 : Int32), .int (yw v4)]) rfl ?_
    refine xZ.eqs (lv2 := [(0, .ref v0), (1, .ref v1), (2, .ref v2), (3, .ref v3), (4, .int (yw v4))]) (st2 := [.int (yw 7), .int (yw v4)]) rfl (by simp only [yl_lit, yL_lit, yw_add, yw_sub, yw_mul, yw_neg, yl_add, yl_sub, yl_mul, cj_and, cj_or, cj_xor, cj_shl, cj_shr, cj_ushr, cj_div, cj_i2c, cj_i2b, cj_dc, ck_and, ck_or, ck_xor, ck_shl, ck_shr, ck_ushr, ck_i2l, ck_l2i, ck_cmp]) ?_
    refine xZ.jc_ge (me := xm58) hP_58 rfl (fun h1 => ?_) (fun h1 => ?_)
    · skip
      refine xZ.k_nO (me := xm58) hP_58 rfl rfl (fun x1 M1 => ?_)
      refine xZ.adv (me := xm58) hP_58 1 (pc' := 153) (lv' := [(0, .ref v0), (1, .ref v1), (2, .ref v2), (3, .ref v3), (4, .int (yw v4))]) (st' := [.ref x1, .ref x1]) rfl ?_
      refine xZ.calli (κ := oU) (av := []) (rest := [.ref x1]) (st' := fun _ => [.ref x1]) (k0 := x1) (me := xm58) hP_58 rfl (Or.inl rfl) rfl rfl (Nat.le_of_ble_eq_true rfl) (by decide) hP_254 (Nat.le_of_ble_eq_true rfl) (fun _ => rfl) (k_f_StringBuilder_ctor O f (d + 5) x1 M1) (fun _ M2 => ?_)
      refine xZ.adv (me := xm58) hP_58 1 (pc' := 158) (lv' := [(0, .ref v0), (1, .ref v1), (2, .ref v2), (3, .ref v3), (4, .int (yw v4))]) (st' := [.ref 1000000038, .ref x1]) rfl ?_
      refine xZ.callv (κ := oR) (av := [.ref 1000000038]) (rest := []) (st' := fun x3 => [.ref x3]) (k0 := x1) (me := xm58) hP_58 rfl (Or.inl rfl) ⟨rfl, by decide⟩ rfl rfl (Nat.le_of_ble_eq_true rfl) (by decide) hP_256 (Nat.le_of_ble_eq_true rfl) (fun _ => rfl) (k_f_StringBuilder_append_256 O f (d + 0) x1 1000000038 M2) (fun x3 M3 => ?_)
      refine xZ.adv (me := xm58) hP_58 1 (pc' := 162) (lv' := [(0, .ref v0), (1, .ref v1), (2, .ref v2), (3, .ref v3), (4, .int (yw v4))]) (st' := [.ref v0, .ref x3]) rfl ?_
      refine xZ.k_gJ (me := xm58) hP_58 rfl (fun x4 => ?_)
      refine xZ.adv (me := xm58) hP_58 1 (pc' := 166) (lv' := [(0, .ref v0), (1, .ref v1), (2, .ref v2), (3, .ref v3), (4, .int (yw v4))]) (st' := [.int (1 : Int32), .int (yw x4), .ref x3]) rfl ?_
      refine xZ.eqs (lv2 := [(0, .ref v0), (1, .ref v1), (2, .ref v2), (3, .ref v3), (4, .int (yw v4))]) (st2 := [.int (yw 1), .int (yw x4), .ref x3]) rfl (by simp only [yl_lit, yL_lit, yw_add, yw_sub, yw_mul, yw_neg, yl_add, yl_sub, yl_mul, cj_and, cj_or, cj_xor, cj_shl, cj_shr, cj_ushr, cj_div, cj_i2c, cj_i2b, cj_dc, ck_and, ck_or, ck_xor, ck_shl, ck_shr, ck_ushr, ck_i2l, ck_l2i, ck_cmp]) ?_
      refine xZ.jc_le (me := xm58) hP_58 rfl (fun h2 => ?_) (fun h2 => ?_)
      · skip
        refine xZ.adv (me := xm58) hP_58 1 (pc' := 196) (lv' := [(0, .ref v0), (1, .ref v1), (2, .ref v2), (3, .ref v3), (4, .int (yw v4))]) (st' := [.ref 1000000034, .ref x3]) rfl ?_
        exact xZ.sub (xsc (.head _) (xsc (.tail _ (.tail _ (.head _))) (xsc (.tail _ (.tail _ (.tail _ (.head _)))) xsn))) (show ([0, 1, 2, 3, 4] : List Nat).Nodup from by decide) (k_f_LRule_text_196 O f d v0 v2 v3 x3 1000000034 M3)
      · skip
        refine xZ.k_nO (me := xm58) hP_58 rfl rfl (fun x5 M4 => ?_)
        refine xZ.adv (me := xm58) hP_58 1 (pc' := 173) (lv' := [(0, .ref v0), (1, .ref v1), (2, .ref v2), (3, .ref v3), (4, .int (yw v4))]) (st' := [.ref x5, .ref x5, .ref x3]) rfl ?_
        refine xZ.calli (κ := oU) (av := []) (rest := [.ref x5, .ref x3]) (st' := fun _ => [.ref x5, .ref x3]) (k0 := x5) (me := xm58) hP_58 rfl (Or.inl rfl) rfl rfl (Nat.le_of_ble_eq_true rfl) (by decide) hP_254 (Nat.le_of_ble_eq_true rfl) (fun _ => rfl) (k_f_StringBuilder_ctor O f (d + 5) x5 M4) (fun _ M5 => ?_)
        refine xZ.adv (me := xm58) hP_58 1 (pc' := 177) (lv' := [(0, .ref v0), (1, .ref v1), (2, .ref v2), (3, .ref v3), (4, .int (yw v4))]) (st' := [.ref v0, .ref x5, .ref x3]) rfl ?_
        refine xZ.k_gJ (me := xm58) hP_58 rfl (fun x7 => ?_)
        refine xZ.callv (κ := oR) (av := [.int (yw x7)]) (rest := [.ref x3]) (st' := fun x8 => [.ref x8, .ref x3]) (k0 := x5) (me := xm58) hP_58 rfl (Or.inl rfl) ⟨rfl, by decide⟩ rfl rfl (Nat.le_of_ble_eq_true rfl) (by decide) hP_285 (Nat.le_of_ble_eq_true rfl) (fun _ => rfl) (k_f_StringBuilder_append_285 O f (d + 1) x5 x7 M5) (fun x8 M6 => ?_)
        refine xZ.adv (me := xm58) hP_58 1 (pc' := 185) (lv' := [(0, .ref v0), (1, .ref v1), (2, .ref v2), (3, .ref v3), (4, .int (yw v4))]) (st' := [.ref 1000000036, .ref x8, .ref x3]) rfl ?_
        refine xZ.callv (κ := oR) (av := [.ref 1000000036]) (rest := [.ref x3]) (st' := fun x9 => [.ref x9, .ref x3]) (k0 := x8) (me := xm58) hP_58 rfl (Or.inl rfl) ⟨rfl, by decide⟩ rfl rfl (Nat.le_of_ble_eq_true rfl) (by decide) hP_256 (Nat.le_of_ble_eq_true rfl) (fun _ => rfl) (k_f_StringBuilder_append_256 O f (d + 0) x8 1000000036 M6) (fun x9 M7 => ?_)
        refine xZ.callv (κ := oR) (av := []) (rest := [.ref x3]) (st' := fun x10 => [.ref x10, .ref x3]) (k0 := x9) (me := xm58) hP_58 rfl (Or.inl rfl) ⟨rfl, by decide⟩ rfl rfl (Nat.le_of_ble_eq_true rfl) (by decide) hP_276 (Nat.le_of_ble_eq_true rfl) (fun _ => rfl) (k_f_StringBuilder_toString O f (d + 1) x9 M7) (fun x10 M8 => ?_)
        refine xZ.adv (me := xm58) hP_58 1 (pc' := 196) (lv' := [(0, .ref v0), (1, .ref v1), (2, .ref v2), (3, .ref v3), (4, .int (yw v4))]) (st' := [.ref x10, .ref x3]) rfl ?_
        exact xZ.sub (xsc (.head _) (xsc (.tail _ (.tail _ (.head _))) (xsc (.tail _ (.tail _ (.tail _ (.head _)))) xsn))) (show ([0, 1, 2, 3, 4] : List Nat).Nodup from by decide) (k_f_LRule_text_196 O f d v0 v2 v3 x3 x10 M8)
    · skip
      refine xZ.k_nO (me := xm58) hP_58 rfl rfl (fun x11 M9 => ?_)
      refine xZ.adv (me := xm58) hP_58 1 (pc' := 89) (lv' := [(0, .ref v0), (1, .ref v1), (2, .ref v2), (3, .ref v3), (4, .int (yw v4))]) (st' := [.ref x11, .ref x11]) rfl ?_
      refine xZ.calli (κ := oU) (av := []) (rest := [.ref x11]) (st' := fun _ => [.ref x11]) (k0 := x11) (me := xm58) hP_58 rfl (Or.inl rfl) rfl rfl (Nat.le_of_ble_eq_true rfl) (by decide) hP_254 (Nat.le_of_ble_eq_true rfl) (fun _ => rfl) (k_f_StringBuilder_ctor O f (d + 5) x11 M9) (fun _ M10 => ?_)
      refine xZ.adv (me := xm58) hP_58 1 (pc' := 93) (lv' := [(0, .ref v0), (1, .ref v1), (2, .ref v2), (3, .ref v3), (4, .int (yw v4))]) (st' := [.ref v3, .ref x11]) rfl ?_
      refine xZ.callv (κ := oR) (av := [.ref v3]) (rest := []) (st' := fun x13 => [.ref x13]) (k0 := x11) (me := xm58) hP_58 rfl (Or.inl rfl) ⟨rfl, by decide⟩ rfl rfl (Nat.le_of_ble_eq_true rfl) (by decide) hP_256 (Nat.le_of_ble_eq_true rfl) (fun _ => rfl) (k_f_StringBuilder_append_256 O f (d + 0) x11 v3 M10) (fun x13 M11 => ?_)
      refine xZ.adv (me := xm58) hP_58 1 (pc' := 97) (lv' := [(0, .ref v0), (1, .ref v1), (2, .ref v2), (3, .ref v3), (4, .int (yw v4))]) (st' := [.ref v0, .ref x13]) rfl ?_
      refine xZ.k_gJ (me := xm58) hP_58 rfl (fun x14 => ?_)
      refine xZ.adv (me := xm58) hP_58 5 (pc' := 106) (lv' := [(0, .ref v0), (1, .ref v1), (2, .ref v2), (3, .ref v3), (4, .int (yw v4))]) (st' := [.int (1 : Int32), .int (((yw x14) >>> ((yw v4) &&& 31)) &&& (1 : Int32)), .ref x13]) rfl ?_
      refine xZ.eqs (lv2 := [(0, .ref v0), (1, .ref v1), (2, .ref v2), (3, .ref v3), (4, .int (yw v4))]) (st2 := [.int (yw 1), .int (yw (jand (jshr x14 (jand v4 31)) 1)), .ref x13]) rfl (by simp only [yl_lit, yL_lit, yw_add, yw_sub, yw_mul, yw_neg, yl_add, yl_sub, yl_mul, cj_and, cj_or, cj_xor, cj_shl, cj_shr, cj_ushr, cj_div, cj_i2c, cj_i2b, cj_dc, ck_and, ck_or, ck_xor, ck_shl, ck_shr, ck_ushr, ck_i2l, ck_l2i, ck_cmp]) ?_
      refine xZ.jc_ne (me := xm58) hP_58 rfl (fun h3 => ?_) (fun h3 => ?_)
      · skip
        refine xZ.k_nO (me := xm58) hP_58 rfl rfl (fun x15 M12 => ?_)
        refine xZ.adv (me := xm58) hP_58 1 (pc' := 113) (lv' := [(0, .ref v0), (1, .ref v1), (2, .ref v2), (3, .ref v3), (4, .int (yw v4))]) (st' := [.ref x15, .ref x15, .ref x13]) rfl ?_
        refine xZ.calli (κ := oU) (av := []) (rest := [.ref x15, .ref x13]) (st' := fun _ => [.ref x15, .ref x13]) (k0 := x15) (me := xm58) hP_58 rfl (Or.inl rfl) rfl rfl (Nat.le_of_ble_eq_true rfl) (by decide) hP_254 (Nat.le_of_ble_eq_true rfl) (fun _ => rfl) (k_f_StringBuilder_ctor O f (d + 5) x15 M12) (fun _ M13 => ?_)
        refine xZ.adv (me := xm58) hP_58 1 (pc' := 118) (lv' := [(0, .ref v0), (1, .ref v1), (2, .ref v2), (3, .ref v3), (4, .int (yw v4))]) (st' := [.ref 1000000036, .ref x15, .ref x13]) rfl ?_
        refine xZ.callv (κ := oR) (av := [.ref 1000000036]) (rest := [.ref x13]) (st' := fun x17 => [.ref x17, .ref x13]) (k0 := x15) (me := xm58) hP_58 rfl (Or.inl rfl) ⟨rfl, by decide⟩ rfl rfl (Nat.le_of_ble_eq_true rfl) (by decide) hP_256 (Nat.le_of_ble_eq_true rfl) (fun _ => rfl) (k_f_StringBuilder_append_256 O f (d + 0) x15 1000000036 M13) (fun x17 M14 => ?_)
        refine xZ.adv (me := xm58) hP_58 2 (pc' := 124) (lv' := [(0, .ref v0), (1, .ref v1), (2, .ref v2), (3, .ref v3), (4, .int (yw v4))]) (st' := [.int (yw v4), .ref v1, .ref x17, .ref x13]) rfl ?_
        refine xZ.k_aJR (me := xm58) hP_58 rfl (fun x18 => ?_)
        refine xZ.callv (κ := oR) (av := [.ref x18]) (rest := [.ref x13]) (st' := fun x19 => [.ref x19, .ref x13]) (k0 := x17) (me := xm58) hP_58 rfl (Or.inl rfl) ⟨rfl, by decide⟩ rfl rfl (Nat.le_of_ble_eq_true rfl) (by decide) hP_256 (Nat.le_of_ble_eq_true rfl) (fun _ => rfl) (k_f_StringBuilder_append_256 O f (d + 0) x17 x18 M14) (fun x19 M15 => ?_)
        refine xZ.callv (κ := oR) (av := []) (rest := [.ref x13]) (st' := fun x20 => [.ref x20, .ref x13]) (k0 := x19) (me := xm58) hP_58 rfl (Or.inl rfl) ⟨rfl, by decide⟩ rfl rfl (Nat.le_of_ble_eq_true rfl) (by decide) hP_276 (Nat.le_of_ble_eq_true rfl) (fun _ => rfl) (k_f_StringBuilder_toString O f (d + 1) x19 M15) (fun x20 M16 => ?_)
        refine xZ.adv (me := xm58) hP_58 1 (pc' := 136) (lv' := [(0, .ref v0), (1, .ref v1), (2, .ref v2), (3, .ref v3), (4, .int (yw v4))]) (st' := [.ref x20, .ref x13]) rfl ?_
        exact xZ.sub (xsc (.head _) (xsc (.tail _ (.head _)) (xsc (.tail _ (.tail _ (.head _))) (xsc (.tail _ (.tail _ (.tail _ (.tail _ (.head _))))) xsn)))) (show ([0, 1, 2, 3, 4] : List Nat).Nodup from by decide) (k_f_LRule_text_136 O f d (f_LRule_text_78 O f n) ih v0 v1 v2 v4 x13 x20 M16)
      · skip
        refine xZ.adv (me := xm58) hP_58 1 (pc' := 136) (lv' := [(0, .ref v0), (1, .ref v1), (2, .ref v2), (3, .ref v3), (4, .int (yw v4))]) (st' := [.ref 1000000034, .ref x13]) rfl ?_
        exact xZ.sub (xsc (.head _) (xsc (.tail _ (.head _)) (xsc (.tail _ (.tail _ (.head _))) (xsc (.tail _ (.tail _ (.tail _ (.tail _ (.head _))))) xsn)))) (show ([0, 1, 2, 3, 4] : List Nat).Nodup from by decide) (k_f_LRule_text_136 O f d (f_LRule_text_78 O f n) ih v0 v1 v2 v4 x13 1000000034 M11)
def f_LRule_text (O : Nat → Option va_E) (f : Nat) (v0 : Nat) (M : xM) : Option (Nat × xM) :=
  xcl (nAJ M 11 7) fun x1 M1 =>
  (wJR O M1 x1 0 1000000010).bind fun M2 =>
  (wJR O M2 x1 1 1000000012).bind fun M3 =>
  (wJR O M3 x1 2 1000000014).bind fun M4 =>
  (wJR O M4 x1 3 1000000016).bind fun M5 =>
  (wJR O M5 x1 4 1000000018).bind fun M6 =>
  (wJR O M6 x1 5 1000000020).bind fun M7 =>
  (wJR O M7 x1 6 1000000022).bind fun M8 =>
  xcl (nAJ M8 11 5) fun x2 M9 =>
  (wJR O M9 x2 0 1000000024).bind fun M10 =>
  (wJR O M10 x2 1 1000000026).bind fun M11 =>
  (wJR O M11 x2 2 1000000028).bind fun M12 =>
  (wJR O M12 x2 3 1000000030).bind fun M13 =>
  (wJR O M13 x2 4 1000000032).bind fun M14 =>
  f_LRule_text_78 O f f v0 x1 x2 1000000034 0 M14
set_option maxRecDepth 20000 in
theorem k_f_LRule_text (O : Nat → Option va_E) (f d : Nat) (v0 : Nat) (M : xM) : xZ oR O (d + 7) 58 0 [(0, .ref v0)] [] M (f_LRule_text O f v0 M) := by
  unfold f_LRule_text
  refine xZ.adv (me := xm58) hP_58 1 (pc' := 2) (lv' := [(0, .ref v0)]) (st' := [.int (7 : Int32)]) rfl ?_
  refine xZ.eqs (lv2 := [(0, .ref v0)]) (st2 := [.int (yw 7)]) rfl (by simp only [yl_lit, yL_lit, yw_add, yw_sub, yw_mul, yw_neg, yl_add, yl_sub, yl_mul, cj_and, cj_or, cj_xor, cj_shl, cj_shr, cj_ushr, cj_div, cj_i2c, cj_i2b, cj_dc, ck_and, ck_or, ck_xor, ck_shl, ck_shr, ck_ushr, ck_i2l, ck_l2i, ck_cmp]) ?_
  refine xZ.nRj (me := xm58) hP_58 rfl (by decide) (fun x1 M1 => ?_)
  refine xZ.adv (me := xm58) hP_58 3 (pc' := 9) (lv' := [(0, .ref v0)]) (st' := [.ref 1000000010, .int (0 : Int32), .ref x1, .ref x1]) rfl ?_
  refine xZ.eqs (lv2 := [(0, .ref v0)]) (st2 := [.ref 1000000010, .int (yw 0), .ref x1, .ref x1]) rfl (by simp only [yl_lit, yL_lit, yw_add, yw_sub, yw_mul, yw_neg, yl_add, yl_sub, yl_mul, cj_and, cj_or, cj_xor, cj_shl, cj_shr, cj_ushr, cj_div, cj_i2c, cj_i2b, cj_dc, ck_and, ck_or, ck_xor, ck_shl, ck_shr, ck_ushr, ck_i2l, ck_l2i, ck_cmp]) ?_
  refine xZ.k_wJR (me := xm58) hP_58 rfl (fun M2 => ?_)
  refine xZ.adv (me := xm58) hP_58 3 (pc' := 14) (lv' := [(0, .ref v0)]) (st' := [.ref 1000000012, .int (1 : Int32), .ref x1, .ref x1]) rfl ?_
  refine xZ.eqs (lv2 := [(0, .ref v0)]) (st2 := [.ref 1000000012, .int (yw 1), .ref x1, .ref x1]) rfl (by simp only [yl_lit, yL_lit, yw_add, yw_sub, yw_mul, yw_neg, yl_add, yl_sub, yl_mul, cj_and, cj_or, cj_xor, cj_shl, cj_shr, cj_ushr, cj_div, cj_i2c, cj_i2b, cj_dc, ck_and, ck_or, ck_xor, ck_shl, ck_shr, ck_ushr, ck_i2l, ck_l2i, ck_cmp]) ?_
  refine xZ.k_wJR (me := xm58) hP_58 rfl (fun M3 => ?_)
  refine xZ.adv (me := xm58) hP_58 3 (pc' := 19) (lv' := [(0, .ref v0)]) (st' := [.ref 1000000014, .int (2 : Int32), .ref x1, .ref x1]) rfl ?_
  refine xZ.eqs (lv2 := [(0, .ref v0)]) (st2 := [.ref 1000000014, .int (yw 2), .ref x1, .ref x1]) rfl (by simp only [yl_lit, yL_lit, yw_add, yw_sub, yw_mul, yw_neg, yl_add, yl_sub, yl_mul, cj_and, cj_or, cj_xor, cj_shl, cj_shr, cj_ushr, cj_div, cj_i2c, cj_i2b, cj_dc, ck_and, ck_or, ck_xor, ck_shl, ck_shr, ck_ushr, ck_i2l, ck_l2i, ck_cmp]) ?_
  refine xZ.k_wJR (me := xm58) hP_58 rfl (fun M4 => ?_)
  refine xZ.adv (me := xm58) hP_58 3 (pc' := 24) (lv' := [(0, .ref v0)]) (st' := [.ref 1000000016, .int (3 : Int32), .ref x1, .ref x1]) rfl ?_
  refine xZ.eqs (lv2 := [(0, .ref v0)]) (st2 := [.ref 1000000016, .int (yw 3), .ref x1, .ref x1]) rfl (by simp only [yl_lit, yL_lit, yw_add, yw_sub, yw_mul, yw_neg, yl_add, yl_sub, yl_mul, cj_and, cj_or, cj_xor, cj_shl, cj_shr, cj_ushr, cj_div, cj_i2c, cj_i2b, cj_dc, ck_and, ck_or, ck_xor, ck_shl, ck_shr, ck_ushr, ck_i2l, ck_l2i, ck_cmp]) ?_
  refine xZ.k_wJR (me := xm58) hP_58 rfl (fun M5 => ?_)
  refine xZ.adv (me := xm58) hP_58 3 (pc' := 29) (lv' := [(0, .ref v0)]) (st' := [.ref 1000000018, .int (4 : Int32), .ref x1, .ref x1]) rfl ?_
  refine xZ.eqs (lv2 := [(0, .ref v0)]) (st2 := [.ref 1000000018, .int (yw 4), .ref x1, .ref x1]) rfl (by simp only [yl_lit, yL_lit, yw_add, yw_sub, yw_mul, yw_neg, yl_add, yl_sub, yl_mul, cj_and, cj_or, cj_xor, cj_shl, cj_shr, cj_ushr, cj_div, cj_i2c, cj_i2b, cj_dc, ck_and, ck_or, ck_xor, ck_shl, ck_shr, ck_ushr, ck_i2l, ck_l2i, ck_cmp]) ?_
  refine xZ.k_wJR (me := xm58) hP_58 rfl (fun M6 => ?_)
  refine xZ.adv (me := xm58) hP_58 3 (pc' := 34) (lv' := [(0, .ref v0)]) (st' := [.ref 1000000020, .int (5 : Int32), .ref x1, .ref x1]) rfl ?_
  refine xZ.eqs (lv2 := [(0, .ref v0)]) (st2 := [.ref 1000000020, .int (yw 5), .ref x1, .ref x1]) rfl (by simp only [yl_lit, yL_lit, yw_add, yw_sub, yw_mul, yw_neg, yl_add, yl_sub, yl_mul, cj_and, cj_or, cj_xor, cj_shl, cj_shr, cj_ushr, cj_div, cj_i2c, cj_i2b, cj_dc, ck_and, ck_or, ck_xor, ck_shl, ck_shr, ck_ushr, ck_i2l, ck_l2i, ck_cmp]) ?_
  refine xZ.k_wJR (me := xm58) hP_58 rfl (fun M7 => ?_)
  refine xZ.adv (me := xm58) hP_58 3 (pc' := 40) (lv' := [(0, .ref v0)]) (st' := [.ref 1000000022, .int (6 : Int32), .ref x1, .ref x1]) rfl ?_
  refine xZ.eqs (lv2 := [(0, .ref v0)]) (st2 := [.ref 1000000022, .int (yw 6), .ref x1, .ref x1]) rfl (by simp only [yl_lit, yL_lit, yw_add, yw_sub, yw_mul, yw_neg, yl_add, yl_sub, yl_mul, cj_and, cj_or, cj_xor, cj_shl, cj_shr, cj_ushr, cj_div, cj_i2c, cj_i2b, cj_dc, ck_and, ck_or, ck_xor, ck_shl, ck_shr, ck_ushr, ck_i2l, ck_l2i, ck_cmp]) ?_
  refine xZ.k_wJR (me := xm58) hP_58 rfl (fun M8 => ?_)
  refine xZ.adv (me := xm58) hP_58 2 (pc' := 43) (lv' := [(1, .ref x1), (0, .ref v0)]) (st' := [.int (5 : Int32)]) rfl ?_
  refine xZ.eqs (lv2 := [(1, .ref x1), (0, .ref v0)]) (st2 := [.int (yw 5)]) rfl (by simp only [yl_lit, yL_lit, yw_add, yw_sub, yw_mul, yw_neg, yl_add, yl_sub, yl_mul, cj_and, cj_or, cj_xor, cj_shl, cj_shr, cj_ushr, cj_div, cj_i2c, cj_i2b, cj_dc, ck_and, ck_or, ck_xor, ck_shl, ck_shr, ck_ushr, ck_i2l, ck_l2i, ck_cmp]) ?_
  refine xZ.nRj (me := xm58) hP_58 rfl (by decide) (fun x2 M9 => ?_)
  refine xZ.adv (me := xm58) hP_58 3 (pc' := 50) (lv' := [(1, .ref x1), (0, .ref v0)]) (st' := [.ref 1000000024, .int (0 : Int32), .ref x2, .ref x2]) rfl ?_
  refine xZ.eqs (lv2 := [(1, .ref x1), (0, .ref v0)]) (st2 := [.ref 1000000024, .int (yw 0), .ref x2, .ref x2]) rfl (by simp only [yl_lit, yL_lit, yw_add, yw_sub, yw_mul, yw_neg, yl_add, yl_sub, yl_mul, cj_and, cj_or, cj_xor, cj_shl, cj_shr, cj_ushr, cj_div, cj_i2c, cj_i2b, cj_dc, ck_and, ck_or, ck_xor, ck_shl, ck_shr, ck_ushr, ck_i2l, ck_l2i, ck_cmp]) ?_
  refine xZ.k_wJR (me := xm58) hP_58 rfl (fun M10 => ?_)
  refine xZ.adv (me := xm58) hP_58 3 (pc' := 55) (lv' := [(1, .ref x1), (0, .ref v0)]) (st' := [.ref 1000000026, .int (1 : Int32), .ref x2, .ref x2]) rfl ?_
  refine xZ.eqs (lv2 := [(1, .ref x1), (0, .ref v0)]) (st2 := [.ref 1000000026, .int (yw 1), .ref x2, .ref x2]) rfl (by simp only [yl_lit, yL_lit, yw_add, yw_sub, yw_mul, yw_neg, yl_add, yl_sub, yl_mul, cj_and, cj_or, cj_xor, cj_shl, cj_shr, cj_ushr, cj_div, cj_i2c, cj_i2b, cj_dc, ck_and, ck_or, ck_xor, ck_shl, ck_shr, ck_ushr, ck_i2l, ck_l2i, ck_cmp]) ?_
  refine xZ.k_wJR (me := xm58) hP_58 rfl (fun M11 => ?_)
  refine xZ.adv (me := xm58) hP_58 3 (pc' := 60) (lv' := [(1, .ref x1), (0, .ref v0)]) (st' := [.ref 1000000028, .int (2 : Int32), .ref x2, .ref x2]) rfl ?_
  refine xZ.eqs (lv2 := [(1, .ref x1), (0, .ref v0)]) (st2 := [.ref 1000000028, .int (yw 2), .ref x2, .ref x2]) rfl (by simp only [yl_lit, yL_lit, yw_add, yw_sub, yw_mul, yw_neg, yl_add, yl_sub, yl_mul, cj_and, cj_or, cj_xor, cj_shl, cj_shr, cj_ushr, cj_div, cj_i2c, cj_i2b, cj_dc, ck_and, ck_or, ck_xor, ck_shl, ck_shr, ck_ushr, ck_i2l, ck_l2i, ck_cmp]) ?_
  refine xZ.k_wJR (me := xm58) hP_58 rfl (fun M12 => ?_)
  refine xZ.adv (me := xm58) hP_58 3 (pc' := 65) (lv' := [(1, .ref x1), (0, .ref v0)]) (st' := [.ref 1000000030, .int (3 : Int32), .ref x2, .ref x2]) rfl ?_
  refine xZ.eqs (lv2 := [(1, .ref x1), (0, .ref v0)]) (st2 := [.ref 1000000030, .int (yw 3), .ref x2, .ref x2]) rfl (by simp only [yl_lit, yL_lit, yw_add, yw_sub, yw_mul, yw_neg, yl_add, yl_sub, yl_mul, cj_and, cj_or, cj_xor, cj_shl, cj_shr, cj_ushr, cj_div, cj_i2c, cj_i2b, cj_dc, ck_and, ck_or, ck_xor, ck_shl, ck_shr, ck_ushr, ck_i2l, ck_l2i, ck_cmp]) ?_
  refine xZ.k_wJR (me := xm58) hP_58 rfl (fun M13 => ?_)
  refine xZ.adv (me := xm58) hP_58 3 (pc' := 70) (lv' := [(1, .ref x1), (0, .ref v0)]) (st' := [.ref 1000000032, .int (4 : Int32), .ref x2, .ref x2]) rfl ?_
  refine xZ.eqs (lv2 := [(1, .ref x1), (0, .ref v0)]) (st2 := [.ref 1000000032, .int (yw 4), .ref x2, .ref x2]) rfl (by simp only [yl_lit, yL_lit, yw_add, yw_sub, yw_mul, yw_neg, yl_add, yl_sub, yl_mul, cj_and, cj_or, cj_xor, cj_shl, cj_shr, cj_ushr, cj_div, cj_i2c, cj_i2b, cj_dc, ck_and, ck_or, ck_xor, ck_shl, ck_shr, ck_ushr, ck_i2l, ck_l2i, ck_cmp]) ?_
  refine xZ.k_wJR (me := xm58) hP_58 rfl (fun M14 => ?_)
  refine xZ.adv (me := xm58) hP_58 5 (pc' := 78) (lv' := [(4, .int (0 : Int32)), (3, .ref 1000000034), (2, .ref x2), (1, .ref x1), (0, .ref v0)]) (st' := []) rfl ?_
  refine xZ.eqs (lv2 := [(4, .int (yw 0)), (3, .ref 1000000034), (2, .ref x2), (1, .ref x1), (0, .ref v0)]) (st2 := []) (by simp only [yl_lit, yL_lit, yw_add, yw_sub, yw_mul, yw_neg, yl_add, yl_sub, yl_mul, cj_and, cj_or, cj_xor, cj_shl, cj_shr, cj_ushr, cj_div, cj_i2c, cj_i2b, cj_dc, ck_and, ck_or, ck_xor, ck_shl, ck_shr, ck_ushr, ck_i2l, ck_l2i, ck_cmp]) rfl ?_
  exact xZ.sub (xsc (.tail _ (.tail _ (.tail _ (.tail _ (.head _))))) (xsc (.tail _ (.tail _ (.tail _ (.head _)))) (xsc (.tail _ (.tail _ (.head _))) (xsc (.tail _ (.head _)) (xsc (.head _) xsn))))) (show ([4, 3, 2, 1, 0] : List Nat).Nodup from by decide) (k_f_LRule_text_78 O f d f v0 x1 x2 1000000034 0 M14)
