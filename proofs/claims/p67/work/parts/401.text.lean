/-! ===== texts ===== -/
def f_Hall_anyZone_22 (O : Nat → Option va_E) (f : Nat) (s0 : Nat) (s1 : Int) (M : xM) : Option (Nat × xM) :=
  (aJR O M s0 s1).bind fun x1 =>
  some (x1, M)
set_option maxRecDepth 20000 in
theorem k_f_Hall_anyZone_22 (O : Nat → Option va_E) (f d : Nat) (s0 : Nat) (s1 : Int) (M : xM) : xZ oR O (d + 0) 21 22 [] [.int (yw s1), .ref s0] M (f_Hall_anyZone_22 O f s0 s1 M) := by
  unfold f_Hall_anyZone_22
  refine xZ.k_aJR (me := xm21) hP_21 rfl (fun x1 => ?_)
  exact xZ.retr (me := xm21) hP_21 rfl rfl rfl
def f_Hall_anyZone_21 (O : Nat → Option va_E) (f : Nat) (s0 : Nat) (M : xM) : Option (Nat × xM) :=
  f_Hall_anyZone_22 O f s0 0 M
set_option maxRecDepth 20000 in
theorem k_f_Hall_anyZone_21 (O : Nat → Option va_E) (f d : Nat) (s0 : Nat) (M : xM) : xZ oR O (d + 0) 21 21 [] [.ref s0] M (f_Hall_anyZone_21 O f s0 M) := by
  unfold f_Hall_anyZone_21
  refine xZ.adv (me := xm21) hP_21 1 (pc' := 22) (lv' := []) (st' := [.int (0 : Int32), .ref s0]) rfl ?_
  refine xZ.eqs (lv2 := []) (st2 := [.int (yw 0), .ref s0]) rfl (by simp only [yl_lit, yL_lit, yw_add, yw_sub, yw_mul, yw_neg, yl_add, yl_sub, yl_mul, cj_and, cj_or, cj_xor, cj_shl, cj_shr, cj_ushr, cj_div, cj_i2c, cj_i2b, cj_dc, ck_and, ck_or, ck_xor, ck_shl, ck_shr, ck_ushr, ck_i2l, ck_l2i, ck_cmp]) ?_
  exact (k_f_Hall_anyZone_22 O f d s0 0 M)
def f_Hall_anyZone (O : Nat → Option va_E) (f : Nat) (v0 : Nat) (v1 : Int) (M : xM) : Option (Nat × xM) :=
  (gR O M v0 4 0).bind fun x1 =>
  if yw v1 < yw 0 then (
    f_Hall_anyZone_21 O f x1 M
  ) else
  (gR O M v0 4 0).bind fun x2 =>
  (aJN O M x2).bind fun x3 =>
  if yw x3 ≤ yw v1 then (
    f_Hall_anyZone_21 O f x1 M
  ) else
  f_Hall_anyZone_22 O f x1 v1 M
set_option maxRecDepth 20000 in
theorem k_f_Hall_anyZone (O : Nat → Option va_E) (f d : Nat) (v0 : Nat) (v1 : Int) (M : xM) : xZ oR O (d + 0) 21 0 [(0, .ref v0), (1, .int (yw v1))] [] M (f_Hall_anyZone O f v0 v1 M) := by
  unfold f_Hall_anyZone
  refine xZ.adv (me := xm21) hP_21 1 (pc' := 1) (lv' := [(0, .ref v0), (1, .int (yw v1))]) (st' := [.ref v0]) rfl ?_
  refine xZ.k_gR (me := xm21) hP_21 rfl (fun x1 => ?_)
  refine xZ.adv (me := xm21) hP_21 1 (pc' := 5) (lv' := [(0, .ref v0), (1, .int (yw v1))]) (st' := [.int (yw v1), .ref x1]) rfl ?_
  refine xZ.jf_lt (me := xm21) hP_21 rfl (fun h1 => ?_) (fun h1 => ?_)
  · skip
    exact xZ.sub xsn (show ([0, 1] : List Nat).Nodup from by decide) (k_f_Hall_anyZone_21 O f d x1 M)
  · skip
    refine xZ.adv (me := xm21) hP_21 2 (pc' := 10) (lv' := [(0, .ref v0), (1, .int (yw v1))]) (st' := [.ref v0, .int (yw v1), .ref x1]) rfl ?_
    refine xZ.k_gR (me := xm21) hP_21 rfl (fun x2 => ?_)
    refine xZ.k_aJN (me := xm21) hP_21 rfl (fun x3 => ?_)
    refine xZ.jc_ge (me := xm21) hP_21 rfl (fun h2 => ?_) (fun h2 => ?_)
    · skip
      exact xZ.sub xsn (show ([0, 1] : List Nat).Nodup from by decide) (k_f_Hall_anyZone_21 O f d x1 M)
    · skip
      refine xZ.adv (me := xm21) hP_21 2 (pc' := 22) (lv' := [(0, .ref v0), (1, .int (yw v1))]) (st' := [.int (yw v1), .ref x1]) rfl ?_
      exact xZ.sub xsn (show ([0, 1] : List Nat).Nodup from by decide) (k_f_Hall_anyZone_22 O f d x1 v1 M)
def f_Calendarhall_zoneNumbered (O : Nat → Option va_E) (f : Nat) (v0 : Nat) (v1 : Int) (M : xM) : Option (Nat × xM) :=
  if yw v1 < yw 0 then (
    none
  ) else
  if yw v1 < yw 3 then (
    (gR O M v0 12 0).bind fun x1 =>
    (isO O M x1 4).bind fun _ =>
    xcl (f_Hall_anyZone O f x1 v1 M) fun x2 M1 =>
    some (x2, M1)
  ) else
  none
set_option maxRecDepth 20000 in
theorem k_f_Calendarhall_zoneNumbered (O : Nat → Option va_E) (f d : Nat) (v0 : Nat) (v1 : Int) (M : xM) : xZ oR O (d + 1) 20 0 [(0, .ref v0), (1, .int (yw v1))] [] M (f_Calendarhall_zoneNumbered O f v0 v1 M) := by
  unfold f_Calendarhall_zoneNumbered
  refine xZ.adv (me := xm20) hP_20 1 (pc' := 1) (lv' := [(0, .ref v0), (1, .int (yw v1))]) (st' := [.int (yw v1)]) rfl ?_
  refine xZ.jf_lt (me := xm20) hP_20 rfl (fun h1 => ?_) (fun h1 => ?_)
  · skip
    exact xZ.no
  · skip
    refine xZ.adv (me := xm20) hP_20 2 (pc' := 6) (lv' := [(0, .ref v0), (1, .int (yw v1))]) (st' := [.int (3 : Int32), .int (yw v1)]) rfl ?_
    refine xZ.eqs (lv2 := [(0, .ref v0), (1, .int (yw v1))]) (st2 := [.int (yw 3), .int (yw v1)]) rfl (by simp only [yl_lit, yL_lit, yw_add, yw_sub, yw_mul, yw_neg, yl_add, yl_sub, yl_mul, cj_and, cj_or, cj_xor, cj_shl, cj_shr, cj_ushr, cj_div, cj_i2c, cj_i2b, cj_dc, ck_and, ck_or, ck_xor, ck_shl, ck_shr, ck_ushr, ck_i2l, ck_l2i, ck_cmp]) ?_
    refine xZ.jc_lt (me := xm20) hP_20 rfl (fun h2 => ?_) (fun h2 => ?_)
    · skip
      refine xZ.adv (me := xm20) hP_20 1 (pc' := 18) (lv' := [(0, .ref v0), (1, .int (yw v1))]) (st' := [.ref v0]) rfl ?_
      refine xZ.k_gR (me := xm20) hP_20 rfl (fun x1 => ?_)
      refine xZ.adv (me := xm20) hP_20 1 (pc' := 22) (lv' := [(0, .ref v0), (1, .int (yw v1))]) (st' := [.int (yw v1), .ref x1]) rfl ?_
      refine xZ.callv (κ := oR) (av := [.int (yw v1)]) (rest := []) (st' := fun x2 => [.ref x2]) (k0 := x1) (me := xm20) hP_20 rfl (Or.inl rfl) ⟨rfl, by decide⟩ rfl rfl (Nat.le_of_ble_eq_true rfl) (by decide) hP_21 (Nat.le_of_ble_eq_true rfl) (fun _ => rfl) (k_f_Hall_anyZone O f (d + 0) x1 v1 M) (fun x2 M1 => ?_)
      exact xZ.retr (me := xm20) hP_20 rfl rfl rfl
    · skip
      exact xZ.no
def f_Calendarhall_needRange (O : Nat → Option va_E) (f : Nat) (v0 : Int) (v1 : Int) (v2 : Int) (M : xM) : Option (Unit × xM) :=
  if yw v0 < yw v1 then (
    none
  ) else
  if yw v0 ≤ yw v2 then (
    some ((), M)
  ) else
  none
set_option maxRecDepth 20000 in
theorem k_f_Calendarhall_needRange (O : Nat → Option va_E) (f d : Nat) (v0 : Int) (v1 : Int) (v2 : Int) (M : xM) : xZ oU O (d + 0) 22 0 [(0, .int (yw v0)), (1, .int (yw v1)), (2, .int (yw v2))] [] M (f_Calendarhall_needRange O f v0 v1 v2 M) := by
  unfold f_Calendarhall_needRange
  refine xZ.adv (me := xm22) hP_22 2 (pc' := 2) (lv' := [(0, .int (yw v0)), (1, .int (yw v1)), (2, .int (yw v2))]) (st' := [.int (yw v1), .int (yw v0)]) rfl ?_
  refine xZ.jc_lt (me := xm22) hP_22 rfl (fun h1 => ?_) (fun h1 => ?_)
  · skip
    exact xZ.no
  · skip
    refine xZ.adv (me := xm22) hP_22 2 (pc' := 7) (lv' := [(0, .int (yw v0)), (1, .int (yw v1)), (2, .int (yw v2))]) (st' := [.int (yw v2), .int (yw v0)]) rfl ?_
    refine xZ.jc_le (me := xm22) hP_22 rfl (fun h2 => ?_) (fun h2 => ?_)
    · skip
      exact xZ.retu (me := xm22) hP_22 rfl rfl
    · skip
      exact xZ.no
def f_Zone_copyFrom (O : Nat → Option va_E) (f : Nat) (v0 : Nat) (v1 : Nat) (M : xM) : Option (Unit × xM) :=
  (gJ O M v1 11 0).bind fun x1 =>
  (pJ M v0 11 0 x1).bind fun M1 =>
  (gJ O M1 v1 11 1).bind fun x2 =>
  (pJ M1 v0 11 1 x2).bind fun M2 =>
  (gR O M2 v1 11 2).bind fun x3 =>
  (gR O M2 v0 11 2).bind fun x4 =>
  (gR O M2 v0 11 2).bind fun x5 =>
  (aJN O M2 x5).bind fun x6 =>
  (cpJ O M2 x3 0 x4 0 x6).bind fun M3 =>
  (gR O M3 v1 11 3).bind fun x7 =>
  (gR O M3 v0 11 3).bind fun x8 =>
  (gR O M3 v0 11 3).bind fun x9 =>
  (aJN O M3 x9).bind fun x10 =>
  (cpJ O M3 x7 0 x8 0 x10).bind fun M4 =>
  some ((), M4)
set_option maxRecDepth 20000 in
theorem k_f_Zone_copyFrom (O : Nat → Option va_E) (f d : Nat) (v0 : Nat) (v1 : Nat) (M : xM) : xZ oU O (d + 0) 25 0 [(0, .ref v0), (1, .ref v1)] [] M (f_Zone_copyFrom O f v0 v1 M) := by
  unfold f_Zone_copyFrom
  refine xZ.adv (me := xm25) hP_25 2 (pc' := 2) (lv' := [(0, .ref v0), (1, .ref v1)]) (st' := [.ref v1, .ref v0]) rfl ?_
  refine xZ.k_gJ (me := xm25) hP_25 rfl (fun x1 => ?_)
  refine xZ.k_pJ (me := xm25) hP_25 rfl (fun M1 => ?_)
  refine xZ.adv (me := xm25) hP_25 2 (pc' := 10) (lv' := [(0, .ref v0), (1, .ref v1)]) (st' := [.ref v1, .ref v0]) rfl ?_
  refine xZ.k_gJ (me := xm25) hP_25 rfl (fun x2 => ?_)
  refine xZ.k_pJ (me := xm25) hP_25 rfl (fun M2 => ?_)
  refine xZ.adv (me := xm25) hP_25 1 (pc' := 17) (lv' := [(0, .ref v0), (1, .ref v1)]) (st' := [.ref v1]) rfl ?_
  refine xZ.k_gR (me := xm25) hP_25 rfl (fun x3 => ?_)
  refine xZ.adv (me := xm25) hP_25 2 (pc' := 22) (lv' := [(0, .ref v0), (1, .ref v1)]) (st' := [.ref v0, .int (0 : Int32), .ref x3]) rfl ?_
  refine xZ.eqs (lv2 := [(0, .ref v0), (1, .ref v1)]) (st2 := [.ref v0, .int (yw 0), .ref x3]) rfl (by simp only [yl_lit, yL_lit, yw_add, yw_sub, yw_mul, yw_neg, yl_add, yl_sub, yl_mul, cj_and, cj_or, cj_xor, cj_shl, cj_shr, cj_ushr, cj_div, cj_i2c, cj_i2b, cj_dc, ck_and, ck_or, ck_xor, ck_shl, ck_shr, ck_ushr, ck_i2l, ck_l2i, ck_cmp]) ?_
  refine xZ.k_gR (me := xm25) hP_25 rfl (fun x4 => ?_)
  refine xZ.adv (me := xm25) hP_25 2 (pc' := 27) (lv' := [(0, .ref v0), (1, .ref v1)]) (st' := [.ref v0, .int (0 : Int32), .ref x4, .int (yw 0), .ref x3]) rfl ?_
  refine xZ.eqs (lv2 := [(0, .ref v0), (1, .ref v1)]) (st2 := [.ref v0, .int (yw 0), .ref x4, .int (yw 0), .ref x3]) rfl (by simp only [yl_lit, yL_lit, yw_add, yw_sub, yw_mul, yw_neg, yl_add, yl_sub, yl_mul, cj_and, cj_or, cj_xor, cj_shl, cj_shr, cj_ushr, cj_div, cj_i2c, cj_i2b, cj_dc, ck_and, ck_or, ck_xor, ck_shl, ck_shr, ck_ushr, ck_i2l, ck_l2i, ck_cmp]) ?_
  refine xZ.k_gR (me := xm25) hP_25 rfl (fun x5 => ?_)
  refine xZ.k_aJN (me := xm25) hP_25 rfl (fun x6 => ?_)
  refine xZ.k_cpJ (me := xm25) hP_25 rfl (Nat.le_of_ble_eq_true rfl) (fun M3 => ?_)
  refine xZ.adv (me := xm25) hP_25 1 (pc' := 35) (lv' := [(0, .ref v0), (1, .ref v1)]) (st' := [.ref v1]) rfl ?_
  refine xZ.k_gR (me := xm25) hP_25 rfl (fun x7 => ?_)
  refine xZ.adv (me := xm25) hP_25 2 (pc' := 40) (lv' := [(0, .ref v0), (1, .ref v1)]) (st' := [.ref v0, .int (0 : Int32), .ref x7]) rfl ?_
  refine xZ.eqs (lv2 := [(0, .ref v0), (1, .ref v1)]) (st2 := [.ref v0, .int (yw 0), .ref x7]) rfl (by simp only [yl_lit, yL_lit, yw_add, yw_sub, yw_mul, yw_neg, yl_add, yl_sub, yl_mul, cj_and, cj_or, cj_xor, cj_shl, cj_shr, cj_ushr, cj_div, cj_i2c, cj_i2b, cj_dc, ck_and, ck_or, ck_xor, ck_shl, ck_shr, ck_ushr, ck_i2l, ck_l2i, ck_cmp]) ?_
  refine xZ.k_gR (me := xm25) hP_25 rfl (fun x8 => ?_)
  refine xZ.adv (me := xm25) hP_25 2 (pc' := 45) (lv' := [(0, .ref v0), (1, .ref v1)]) (st' := [.ref v0, .int (0 : Int32), .ref x8, .int (yw 0), .ref x7]) rfl ?_
  refine xZ.eqs (lv2 := [(0, .ref v0), (1, .ref v1)]) (st2 := [.ref v0, .int (yw 0), .ref x8, .int (yw 0), .ref x7]) rfl (by simp only [yl_lit, yL_lit, yw_add, yw_sub, yw_mul, yw_neg, yl_add, yl_sub, yl_mul, cj_and, cj_or, cj_xor, cj_shl, cj_shr, cj_ushr, cj_div, cj_i2c, cj_i2b, cj_dc, ck_and, ck_or, ck_xor, ck_shl, ck_shr, ck_ushr, ck_i2l, ck_l2i, ck_cmp]) ?_
  refine xZ.k_gR (me := xm25) hP_25 rfl (fun x9 => ?_)
  refine xZ.k_aJN (me := xm25) hP_25 rfl (fun x10 => ?_)
  refine xZ.k_cpJ (me := xm25) hP_25 rfl (Nat.le_of_ble_eq_true rfl) (fun M4 => ?_)
  exact xZ.retu (me := xm25) hP_25 rfl rfl
def f_Hall_anyPerson_22 (O : Nat → Option va_E) (f : Nat) (s0 : Nat) (s1 : Int) (M : xM) : Option (Nat × xM) :=
  (aJR O M s0 s1).bind fun x1 =>
  some (x1, M)
set_option maxRecDepth 20000 in
theorem k_f_Hall_anyPerson_22 (O : Nat → Option va_E) (f d : Nat) (s0 : Nat) (s1 : Int) (M : xM) : xZ oR O (d + 0) 26 22 [] [.int (yw s1), .ref s0] M (f_Hall_anyPerson_22 O f s0 s1 M) := by
  unfold f_Hall_anyPerson_22
  refine xZ.k_aJR (me := xm26) hP_26 rfl (fun x1 => ?_)
  exact xZ.retr (me := xm26) hP_26 rfl rfl rfl
def f_Hall_anyPerson_21 (O : Nat → Option va_E) (f : Nat) (s0 : Nat) (M : xM) : Option (Nat × xM) :=
  f_Hall_anyPerson_22 O f s0 0 M
set_option maxRecDepth 20000 in
theorem k_f_Hall_anyPerson_21 (O : Nat → Option va_E) (f d : Nat) (s0 : Nat) (M : xM) : xZ oR O (d + 0) 26 21 [] [.ref s0] M (f_Hall_anyPerson_21 O f s0 M) := by
  unfold f_Hall_anyPerson_21
  refine xZ.adv (me := xm26) hP_26 1 (pc' := 22) (lv' := []) (st' := [.int (0 : Int32), .ref s0]) rfl ?_
  refine xZ.eqs (lv2 := []) (st2 := [.int (yw 0), .ref s0]) rfl (by simp only [yl_lit, yL_lit, yw_add, yw_sub, yw_mul, yw_neg, yl_add, yl_sub, yl_mul, cj_and, cj_or, cj_xor, cj_shl, cj_shr, cj_ushr, cj_div, cj_i2c, cj_i2b, cj_dc, ck_and, ck_or, ck_xor, ck_shl, ck_shr, ck_ushr, ck_i2l, ck_l2i, ck_cmp]) ?_
  exact (k_f_Hall_anyPerson_22 O f d s0 0 M)
def f_Hall_anyPerson (O : Nat → Option va_E) (f : Nat) (v0 : Nat) (v1 : Int) (M : xM) : Option (Nat × xM) :=
  (gR O M v0 4 1).bind fun x1 =>
  if yw v1 < yw 0 then (
    f_Hall_anyPerson_21 O f x1 M
  ) else
  (gR O M v0 4 1).bind fun x2 =>
  (aJN O M x2).bind fun x3 =>
  if yw x3 ≤ yw v1 then (
    f_Hall_anyPerson_21 O f x1 M
  ) else
  f_Hall_anyPerson_22 O f x1 v1 M
set_option maxRecDepth 20000 in
theorem k_f_Hall_anyPerson (O : Nat → Option va_E) (f d : Nat) (v0 : Nat) (v1 : Int) (M : xM) : xZ oR O (d + 0) 26 0 [(0, .ref v0), (1, .int (yw v1))] [] M (f_Hall_anyPerson O f v0 v1 M) := by
  unfold f_Hall_anyPerson
  refine xZ.adv (me := xm26) hP_26 1 (pc' := 1) (lv' := [(0, .ref v0), (1, .int (yw v1))]) (st' := [.ref v0]) rfl ?_
  refine xZ.k_gR (me := xm26) hP_26 rfl (fun x1 => ?_)
  refine xZ.adv (me := xm26) hP_26 1 (pc' := 5) (lv' := [(0, .ref v0), (1, .int (yw v1))]) (st' := [.int (yw v1), .ref x1]) rfl ?_
  refine xZ.jf_lt (me := xm26) hP_26 rfl (fun h1 => ?_) (fun h1 => ?_)
  · skip
    exact xZ.sub xsn (show ([0, 1] : List Nat).Nodup from by decide) (k_f_Hall_anyPerson_21 O f d x1 M)
  · skip
    refine xZ.adv (me := xm26) hP_26 2 (pc' := 10) (lv' := [(0, .ref v0), (1, .int (yw v1))]) (st' := [.ref v0, .int (yw v1), .ref x1]) rfl ?_
    refine xZ.k_gR (me := xm26) hP_26 rfl (fun x2 => ?_)
    refine xZ.k_aJN (me := xm26) hP_26 rfl (fun x3 => ?_)
    refine xZ.jc_ge (me := xm26) hP_26 rfl (fun h2 => ?_) (fun h2 => ?_)
    · skip
      exact xZ.sub xsn (show ([0, 1] : List Nat).Nodup from by decide) (k_f_Hall_anyPerson_21 O f d x1 M)
    · skip
      refine xZ.adv (me := xm26) hP_26 2 (pc' := 22) (lv' := [(0, .ref v0), (1, .int (yw v1))]) (st' := [.int (yw v1), .ref x1]) rfl ?_
      exact xZ.sub xsn (show ([0, 1] : List Nat).Nodup from by decide) (k_f_Hall_anyPerson_22 O f d x1 v1 M)
def f_Person_put (O : Nat → Option va_E) (f : Nat) (v0 : Nat) (v1 : Int) (v2 : Int) (v3 : Int) (v4 : Int) (M : xM) : Option (Unit × xM) :=
  (pJ M v0 6 0 v1).bind fun M1 =>
  (pJ M1 v0 6 1 v2).bind fun M2 =>
  (pJ M2 v0 6 2 v3).bind fun M3 =>
  (pJ M3 v0 6 3 v4).bind fun M4 =>
  some ((), M4)
set_option maxRecDepth 20000 in
theorem k_f_Person_put (O : Nat → Option va_E) (f d : Nat) (v0 : Nat) (v1 : Int) (v2 : Int) (v3 : Int) (v4 : Int) (M : xM) : xZ oU O (d + 0) 28 0 [(0, .ref v0), (1, .int (yw v1)), (2, .int (yw v2)), (3, .int (yw v3)), (4, .int (yw v4))] [] M (f_Person_put O f v0 v1 v2 v3 v4 M) := by
  unfold f_Person_put
  refine xZ.adv (me := xm28) hP_28 2 (pc' := 2) (lv' := [(0, .ref v0), (1, .int (yw v1)), (2, .int (yw v2)), (3, .int (yw v3)), (4, .int (yw v4))]) (st' := [.int (yw v1), .ref v0]) rfl ?_
  refine xZ.k_pJ (me := xm28) hP_28 rfl (fun M1 => ?_)
  refine xZ.adv (me := xm28) hP_28 2 (pc' := 7) (lv' := [(0, .ref v0), (1, .int (yw v1)), (2, .int (yw v2)), (3, .int (yw v3)), (4, .int (yw v4))]) (st' := [.int (yw v2), .ref v0]) rfl ?_
  refine xZ.k_pJ (me := xm28) hP_28 rfl (fun M2 => ?_)
  refine xZ.adv (me := xm28) hP_28 2 (pc' := 12) (lv' := [(0, .ref v0), (1, .int (yw v1)), (2, .int (yw v2)), (3, .int (yw v3)), (4, .int (yw v4))]) (st' := [.int (yw v3), .ref v0]) rfl ?_
  refine xZ.k_pJ (me := xm28) hP_28 rfl (fun M3 => ?_)
  refine xZ.adv (me := xm28) hP_28 2 (pc' := 18) (lv' := [(0, .ref v0), (1, .int (yw v1)), (2, .int (yw v2)), (3, .int (yw v3)), (4, .int (yw v4))]) (st' := [.int (yw v4), .ref v0]) rfl ?_
  refine xZ.k_pJ (me := xm28) hP_28 rfl (fun M4 => ?_)
  exact xZ.retu (me := xm28) hP_28 rfl rfl
def f_Person_copyFrom (O : Nat → Option va_E) (f : Nat) (v0 : Nat) (v1 : Nat) (M : xM) : Option (Unit × xM) :=
  (gJ O M v1 6 0).bind fun x1 =>
  (gJ O M v1 6 1).bind fun x2 =>
  (gJ O M v1 6 2).bind fun x3 =>
  (gJ O M v1 6 3).bind fun x4 =>
  (isO O M v0 6).bind fun _ =>
  xcl (f_Person_put O f v0 x1 x2 x3 x4 M) fun _ M1 =>
  some ((), M1)
set_option maxRecDepth 20000 in
theorem k_f_Person_copyFrom (O : Nat → Option va_E) (f d : Nat) (v0 : Nat) (v1 : Nat) (M : xM) : xZ oU O (d + 1) 27 0 [(0, .ref v0), (1, .ref v1)] [] M (f_Person_copyFrom O f v0 v1 M) := by
  unfold f_Person_copyFrom
  refine xZ.adv (me := xm27) hP_27 2 (pc' := 2) (lv' := [(0, .ref v0), (1, .ref v1)]) (st' := [.ref v1, .ref v0]) rfl ?_
  refine xZ.k_gJ (me := xm27) hP_27 rfl (fun x1 => ?_)
  refine xZ.adv (me := xm27) hP_27 1 (pc' := 6) (lv' := [(0, .ref v0), (1, .ref v1)]) (st' := [.ref v1, .int (yw x1), .ref v0]) rfl ?_
  refine xZ.k_gJ (me := xm27) hP_27 rfl (fun x2 => ?_)
  refine xZ.adv (me := xm27) hP_27 1 (pc' := 10) (lv' := [(0, .ref v0), (1, .ref v1)]) (st' := [.ref v1, .int (yw x2), .int (yw x1), .ref v0]) rfl ?_
  refine xZ.k_gJ (me := xm27) hP_27 rfl (fun x3 => ?_)
  refine xZ.adv (me := xm27) hP_27 1 (pc' := 14) (lv' := [(0, .ref v0), (1, .ref v1)]) (st' := [.ref v1, .int (yw x3), .int (yw x2), .int (yw x1), .ref v0]) rfl ?_
  refine xZ.k_gJ (me := xm27) hP_27 rfl (fun x4 => ?_)
  refine xZ.callv (κ := oU) (av := [.int (yw x1), .int (yw x2), .int (yw x3), .int (yw x4)]) (rest := []) (st' := fun _ => []) (k0 := v0) (me := xm27) hP_27 rfl (Or.inl rfl) ⟨rfl, by decide⟩ rfl rfl (Nat.le_of_ble_eq_true rfl) (by decide) hP_28 (Nat.le_of_ble_eq_true rfl) (fun _ => rfl) (k_f_Person_put O f (d + 0) v0 x1 x2 x3 x4 M) (fun _ M1 => ?_)
  exact xZ.retu (me := xm27) hP_27 rfl rfl
def f_Hall_anySeries_22 (O : Nat → Option va_E) (f : Nat) (s0 : Nat) (s1 : Int) (M : xM) : Option (Nat × xM) :=
  (aJR O M s0 s1).bind fun x1 =>
  some (x1, M)
set_option maxRecDepth 20000 in
theorem k_f_Hall_anySeries_22 (O : Nat → Option va_E) (f d : Nat) (s0 : Nat) (s1 : Int) (M : xM) : xZ oR O (d + 0) 29 22 [] [.int (yw s1), .ref s0] M (f_Hall_anySeries_22 O f s0 s1 M) := by
  unfold f_Hall_anySeries_22
  refine xZ.k_aJR (me := xm29) hP_29 rfl (fun x1 => ?_)
  exact xZ.retr (me := xm29) hP_29 rfl rfl rfl
def f_Hall_anySeries_21 (O : Nat → Option va_E) (f : Nat) (s0 : Nat) (M : xM) : Option (Nat × xM) :=
  f_Hall_anySeries_22 O f s0 0 M
set_option maxRecDepth 20000 in
theorem k_f_Hall_anySeries_21 (O : Nat → Option va_E) (f d : Nat) (s0 : Nat) (M : xM) : xZ oR O (d + 0) 29 21 [] [.ref s0] M (f_Hall_anySeries_21 O f s0 M) := by
  unfold f_Hall_anySeries_21
  refine xZ.adv (me := xm29) hP_29 1 (pc' := 22) (lv' := []) (st' := [.int (0 : Int32), .ref s0]) rfl ?_
  refine xZ.eqs (lv2 := []) (st2 := [.int (yw 0), .ref s0]) rfl (by simp only [yl_lit, yL_lit, yw_add, yw_sub, yw_mul, yw_neg, yl_add, yl_sub, yl_mul, cj_and, cj_or, cj_xor, cj_shl, cj_shr, cj_ushr, cj_div, cj_i2c, cj_i2b, cj_dc, ck_and, ck_or, ck_xor, ck_shl, ck_shr, ck_ushr, ck_i2l, ck_l2i, ck_cmp]) ?_
  exact (k_f_Hall_anySeries_22 O f d s0 0 M)
def f_Hall_anySeries (O : Nat → Option va_E) (f : Nat) (v0 : Nat) (v1 : Int) (M : xM) : Option (Nat × xM) :=
  (gR O M v0 4 3).bind fun x1 =>
  if yw v1 < yw 0 then (
    f_Hall_anySeries_21 O f x1 M
  ) else
  (gR O M v0 4 3).bind fun x2 =>
  (aJN O M x2).bind fun x3 =>
  if yw x3 ≤ yw v1 then (
    f_Hall_anySeries_21 O f x1 M
  ) else
  f_Hall_anySeries_22 O f x1 v1 M
set_option maxRecDepth 20000 in
theorem k_f_Hall_anySeries (O : Nat → Option va_E) (f d : Nat) (v0 : Nat) (v1 : Int) (M : xM) : xZ oR O (d + 0) 29 0 [(0, .ref v0), (1, .int (yw v1))] [] M (f_Hall_anySeries O f v0 v1 M) := by
  unfold f_Hall_anySeries
  refine xZ.adv (me := xm29) hP_29 1 (pc' := 1) (lv' := [(0, .ref v0), (1, .int (yw v1))]) (st' := [.ref v0]) rfl ?_
  refine xZ.k_gR (me := xm29) hP_29 rfl (fun x1 => ?_)
  refine xZ.adv (me := xm29) hP_29 1 (pc' := 5) (lv' := [(0, .ref v0), (1, .int (yw v1))]) (st' := [.int (yw v1), .ref x1]) rfl ?_
  refine xZ.jf_lt (me := xm29) hP_29 rfl (fun h1 => ?_) (fun h1 => ?_)
  · skip
    exact xZ.sub xsn (show ([0, 1] : List Nat).Nodup from by decide) (k_f_Hall_anySeries_21 O f d x1 M)
  · skip
    refine xZ.adv (me := xm29) hP_29 2 (pc' := 10) (lv' := [(0, .ref v0), (1, .int (yw v1))]) (st' := [.ref v0, .int (yw v1), .ref x1]) rfl ?_
    refine xZ.k_gR (me := xm29) hP_29 rfl (fun x2 => ?_)
    refine xZ.k_aJN (me := xm29) hP_29 rfl (fun x3 => ?_)
    refine xZ.jc_ge (me := xm29) hP_29 rfl (fun h2 => ?_) (fun h2 => ?_)
    · skip
      exact xZ.sub xsn (show ([0, 1] : List Nat).Nodup from by decide) (k_f_Hall_anySeries_21 O f d x1 M)
    · skip
      refine xZ.adv (me := xm29) hP_29 2 (pc' := 22) (lv' := [(0, .ref v0), (1, .int (yw v1))]) (st' := [.int (yw v1), .ref x1]) rfl ?_
      exact xZ.sub xsn (show ([0, 1] : List Nat).Nodup from by decide) (k_f_Hall_anySeries_22 O f d x1 v1 M)
def f_Rule_put (O : Nat → Option va_E) (f : Nat) (v0 : Nat) (v1 : Int) (v2 : Int) (v3 : Int) (v4 : Int) (M : xM) : Option (Unit × xM) :=
  (pJ M v0 9 1 v1).bind fun M1 =>
  (pJ M1 v0 9 2 v2).bind fun M2 =>
  (pJ M2 v0 9 3 v3).bind fun M3 =>
  (pJ M3 v0 9 4 v4).bind fun M4 =>
  some ((), M4)
set_option maxRecDepth 20000 in
theorem k_f_Rule_put (O : Nat → Option va_E) (f d : Nat) (v0 : Nat) (v1 : Int) (v2 : Int) (v3 : Int) (v4 : Int) (M : xM) : xZ oU O (d + 0) 32 0 [(0, .ref v0), (1, .int (yw v1)), (2, .int (yw v2)), (3, .int (yw v3)), (4, .int (yw v4))] [] M (f_Rule_put O f v0 v1 v2 v3 v4 M) := by
  unfold f_Rule_put
  refine xZ.adv (me := xm32) hP_32 2 (pc' := 2) (lv' := [(0, .ref v0), (1, .int (yw v1)), (2, .int (yw v2)), (3, .int (yw v3)), (4, .int (yw v4))]) (st' := [.int (yw v1), .ref v0]) rfl ?_
  refine xZ.k_pJ (me := xm32) hP_32 rfl (fun M1 => ?_)
  refine xZ.adv (me := xm32) hP_32 2 (pc' := 7) (lv' := [(0, .ref v0), (1, .int (yw v1)), (2, .int (yw v2)), (3, .int (yw v3)), (4, .int (yw v4))]) (st' := [.int (yw v2), .ref v0]) rfl ?_
  refine xZ.k_pJ (me := xm32) hP_32 rfl (fun M2 => ?_)
  refine xZ.adv (me := xm32) hP_32 2 (pc' := 12) (lv' := [(0, .ref v0), (1, .int (yw v1)), (2, .int (yw v2)), (3, .int (yw v3)), (4, .int (yw v4))]) (st' := [.int (yw v3), .ref v0]) rfl ?_
  refine xZ.k_pJ (me := xm32) hP_32 rfl (fun M3 => ?_)
  refine xZ.adv (me := xm32) hP_32 2 (pc' := 18) (lv' := [(0, .ref v0), (1, .int (yw v1)), (2, .int (yw v2)), (3, .int (yw v3)), (4, .int (yw v4))]) (st' := [.int (yw v4), .ref v0]) rfl ?_
  refine xZ.k_pJ (me := xm32) hP_32 rfl (fun M4 => ?_)
  exact xZ.retu (me := xm32) hP_32 rfl rfl
def f_Rule_putEnd (O : Nat → Option va_E) (f : Nat) (v0 : Nat) (v1 : Int) (v2 : Int) (M : xM) : Option (Unit × xM) :=
  (pJ M v0 9 5 v1).bind fun M1 =>
  (pJ M1 v0 9 6 v2).bind fun M2 =>
  some ((), M2)
set_option maxRecDepth 20000 in
theorem k_f_Rule_putEnd (O : Nat → Option va_E) (f d : Nat) (v0 : Nat) (v1 : Int) (v2 : Int) (M : xM) : xZ oU O (d + 0) 33 0 [(0, .ref v0), (1, .int (yw v1)), (2, .int (yw v2))] [] M (f_Rule_putEnd O f v0 v1 v2 M) := by
  unfold f_Rule_putEnd
  refine xZ.adv (me := xm33) hP_33 2 (pc' := 2) (lv' := [(0, .ref v0), (1, .int (yw v1)), (2, .int (yw v2))]) (st' := [.int (yw v1), .ref v0]) rfl ?_
  refine xZ.k_pJ (me := xm33) hP_33 rfl (fun M1 => ?_)
  refine xZ.adv (me := xm33) hP_33 2 (pc' := 7) (lv' := [(0, .ref v0), (1, .int (yw v1)), (2, .int (yw v2))]) (st' := [.int (yw v2), .ref v0]) rfl ?_
  refine xZ.k_pJ (me := xm33) hP_33 rfl (fun M2 => ?_)
  exact xZ.retu (me := xm33) hP_33 rfl rfl
def f_Rule_copyFrom (O : Nat → Option va_E) (f : Nat) (v0 : Nat) (v1 : Nat) (M : xM) : Option (Unit × xM) :=
  (gJ O M v1 9 1).bind fun x1 =>
  (gJ O M v1 9 2).bind fun x2 =>
  (gJ O M v1 9 3).bind fun x3 =>
  (gJ O M v1 9 4).bind fun x4 =>
  (isO O M v0 9).bind fun _ =>
  xcl (f_Rule_put O f v0 x1 x2 x3 x4 M) fun _ M1 =>
  (gJ O M1 v1 9 5).bind fun x6 =>
  (gJ O M1 v1 9 6).bind fun x7 =>
  (isO O M1 v0 9).bind fun _ =>
  xcl (f_Rule_putEnd O f v0 x6 x7 M1) fun _ M2 =>
  (gJ O M2 v1 9 0).bind fun x9 =>
  (pJ M2 v0 9 0 x9).bind fun M3 =>
  (gJ O M3 v1 9 7).bind fun x10 =>
  (pJ M3 v0 9 7 x10).bind fun M4 =>
  some ((), M4)
set_option maxRecDepth 20000 in
theorem k_f_Rule_copyFrom (O : Nat → Option va_E) (f d : Nat) (v0 : Nat) (v1 : Nat) (M : xM) : xZ oU O (d + 1) 31 0 [(0, .ref v0), (1, .ref v1)] [] M (f_Rule_copyFrom O f v0 v1 M) := by
  unfold f_Rule_copyFrom
  refine xZ.adv (me := xm31) hP_31 2 (pc' := 2) (lv' := [(0, .ref v0), (1, .ref v1)]) (st' := [.ref v1, .ref v0]) rfl ?_
  refine xZ.k_gJ (me := xm31) hP_31 rfl (fun x1 => ?_)
  refine xZ.adv (me := xm31) hP_31 1 (pc' := 6) (lv' := [(0, .ref v0), (1, .ref v1)]) (st' := [.ref v1, .int (yw x1), .ref v0]) rfl ?_
  refine xZ.k_gJ (me := xm31) hP_31 rfl (fun x2 => ?_)
  refine xZ.adv (me := xm31) hP_31 1 (pc' := 10) (lv' := [(0, .ref v0), (1, .ref v1)]) (st' := [.ref v1, .int (yw x2), .int (yw x1), .ref v0]) rfl ?_
  refine xZ.k_gJ (me := xm31) hP_31 rfl (fun x3 => ?_)
  refine xZ.adv (me := xm31) hP_31 1 (pc' := 14) (lv' := [(0, .ref v0), (1, .ref v1)]) (st' := [.ref v1, .int (yw x3), .int (yw x2), .int (yw x1), .ref v0]) rfl ?_
  refine xZ.k_gJ (me := xm31) hP_31 rfl (fun x4 => ?_)
  refine xZ.callv (κ := oU) (av := [.int (yw x1), .int (yw x2), .int (yw x3), .int (yw x4)]) (rest := []) (st' := fun _ => []) (k0 := v0) (me := xm31) hP_31 rfl (Or.inl rfl) ⟨rfl, by decide⟩ rfl rfl (Nat.le_of_ble_eq_true rfl) (by decide) hP_32 (Nat.le_of_ble_eq_true rfl) (fun _ => rfl) (k_f_Rule_put O f (d + 0) v0 x1 x2 x3 x4 M) (fun _ M1 => ?_)
  refine xZ.adv (me := xm31) hP_31 2 (pc' := 22) (lv' := [(0, .ref v0), (1, .ref v1)]) (st' := [.ref v1, .ref v0]) rfl ?_
  refine xZ.k_gJ (me := xm31) hP_31 rfl (fun x6 => ?_)
  refine xZ.adv (me := xm31) hP_31 1 (pc' := 26) (lv' := [(0, .ref v0), (1, .ref v1)]) (st' := [.ref v1, .int (yw x6), .ref v0]) rfl ?_
  refine xZ.k_gJ (me := xm31) hP_31 rfl (fun x7 => ?_)
  refine xZ.callv (κ := oU) (av := [.int (yw x6), .int (yw x7)]) (rest := []) (st' := fun _ => []) (k0 := v0) (me := xm31) hP_31 rfl (Or.inl rfl) ⟨rfl, by decide⟩ rfl rfl (Nat.le_of_ble_eq_true rfl) (by decide) hP_33 (Nat.le_of_ble_eq_true rfl) (fun _ => rfl) (k_f_Rule_putEnd O f (d + 0) v0 x6 x7 M1) (fun _ M2 => ?_)
  refine xZ.adv (me := xm31) hP_31 2 (pc' := 34) (lv' := [(0, .ref v0), (1, .ref v1)]) (st' := [.ref v1, .ref v0]) rfl ?_
  refine xZ.k_gJ (me := xm31) hP_31 rfl (fun x9 => ?_)
  refine xZ.k_pJ (me := xm31) hP_31 rfl (fun M3 => ?_)
  refine xZ.adv (me := xm31) hP_31 2 (pc' := 42) (lv' := [(0, .ref v0), (1, .ref v1)]) (st' := [.ref v1, .ref v0]) rfl ?_
  refine xZ.k_gJ (me := xm31) hP_31 rfl (fun x10 => ?_)
  refine xZ.k_pJ (me := xm31) hP_31 rfl (fun M4 => ?_)
  exact xZ.retu (me := xm31) hP_31 rfl rfl
def f_Series_copyFrom (O : Nat → Option va_E) (f : Nat) (v0 : Nat) (v1 : Nat) (M : xM) : Option (Unit × xM) :=
  (gJ O M v1 10 0).bind fun x1 =>
  (pJ M v0 10 0 x1).bind fun M1 =>
  (gJ O M1 v1 10 1).bind fun x2 =>
  (pJ M1 v0 10 1 x2).bind fun M2 =>
  (gJ O M2 v1 10 2).bind fun x3 =>
  (pJ M2 v0 10 2 x3).bind fun M3 =>
  (gJ O M3 v1 10 3).bind fun x4 =>
  (pJ M3 v0 10 3 x4).bind fun M4 =>
  (gJ O M4 v1 10 4).bind fun x5 =>
  (pJ M4 v0 10 4 x5).bind fun M5 =>
  (gJ O M5 v1 10 5).bind fun x6 =>
  (pJ M5 v0 10 5 x6).bind fun M6 =>
  (gR O M6 v0 10 6).bind fun x7 =>
  (gR O M6 v1 10 6).bind fun x8 =>
  (isO O M6 x7 9).bind fun _ =>
  xcl (f_Rule_copyFrom O f x7 x8 M6) fun _ M7 =>
  (gJ O M7 v1 10 7).bind fun x10 =>
  (pJ M7 v0 10 7 x10).bind fun M8 =>
  (gR O M8 v1 10 8).bind fun x11 =>
  (gR O M8 v0 10 8).bind fun x12 =>
  (cpJ O M8 x11 0 x12 0 10).bind fun M9 =>
  (gR O M9 v1 10 9).bind fun x13 =>
  (gR O M9 v0 10 9).bind fun x14 =>
  (cpJ O M9 x13 0 x14 0 10).bind fun M10 =>
  (gR O M10 v1 10 10).bind fun x15 =>
  (gR O M10 v0 10 10).bind fun x16 =>
  (cpJ O M10 x15 0 x16 0 8).bind fun M11 =>
  (gR O M11 v1 10 11).bind fun x17 =>
  (gR O M11 v0 10 11).bind fun x18 =>
  (cpJ O M11 x17 0 x18 0 8).bind fun M12 =>
  some ((), M12)
set_option maxRecDepth 20000 in
theorem k_f_Series_copyFrom (O : Nat → Option va_E) (f d : Nat) (v0 : Nat) (v1 : Nat) (M : xM) : xZ oU O (d + 2) 30 0 [(0, .ref v0), (1, .ref v1)] [] M (f_Series_copyFrom O f v0 v1 M) := by
  unfold f_Series_copyFrom
  refine xZ.adv (me := xm30) hP_30 2 (pc' := 2) (lv' := [(0, .ref v0), (1, .ref v1)]) (st' := [.ref v1, .ref v0]) rfl ?_
  refine xZ.k_gJ (me := xm30) hP_30 rfl (fun x1 => ?_)
  refine xZ.k_pJ (me := xm30) hP_30 rfl (fun M1 => ?_)
  refine xZ.adv (me := xm30) hP_30 2 (pc' := 10) (lv' := [(0, .ref v0), (1, .ref v1)]) (st' := [.ref v1, .ref v0]) rfl ?_
  refine xZ.k_gJ (me := xm30) hP_30 rfl (fun x2 => ?_)
  refine xZ.k_pJ (me := xm30) hP_30 rfl (fun M2 => ?_)
  refine xZ.adv (me := xm30) hP_30 2 (pc' := 18) (lv' := [(0, .ref v0), (1, .ref v1)]) (st' := [.ref v1, .ref v0]) rfl ?_
  refine xZ.k_gJ (me := xm30) hP_30 rfl (fun x3 => ?_)
  refine xZ.k_pJ (me := xm30) hP_30 rfl (fun M3 => ?_)
  refine xZ.adv (me := xm30) hP_30 2 (pc' := 26) (lv' := [(0, .ref v0), (1, .ref v1)]) (st' := [.ref v1, .ref v0]) rfl ?_
  refine xZ.k_gJ (me := xm30) hP_30 rfl (fun x4 => ?_)
  refine xZ.k_pJ (me := xm30) hP_30 rfl (fun M4 => ?_)
  refine xZ.adv (me := xm30) hP_30 2 (pc' := 34) (lv' := [(0, .ref v0), (1, .ref v1)]) (st' := [.ref v1, .ref v0]) rfl ?_
  refine xZ.k_gJ (me := xm30) hP_30 rfl (fun x5 => ?_)
  refine xZ.k_pJ (me := xm30) hP_30 rfl (fun M5 => ?_)
  refine xZ.adv (me := xm30) hP_30 2 (pc' := 42) (lv' := [(0, .ref v0), (1, .ref v1)]) (st' := [.ref v1, .ref v0]) rfl ?_
  refine xZ.k_gJ (me := xm30) hP_30 rfl (fun x6 => ?_)
  refine xZ.k_pJ (me := xm30) hP_30 rfl (fun M6 => ?_)
  refine xZ.adv (me := xm30) hP_30 1 (pc' := 49) (lv' := [(0, .ref v0), (1, .ref v1)]) (st' := [.ref v0]) rfl ?_
  refine xZ.k_gR (me := xm30) hP_30 rfl (fun x7 => ?_)
  refine xZ.adv (me := xm30) hP_30 1 (pc' := 53) (lv' := [(0, .ref v0), (1, .ref v1)]) (st' := [.ref v1, .ref x7]) rfl ?_
  refine xZ.k_gR (me := xm30) hP_30 rfl (fun x8 => ?_)
  refine xZ.callv (κ := oU) (av := [.ref x8]) (rest := []) (st' := fun _ => []) (k0 := x7) (me := xm30) hP_30 rfl (Or.inl rfl) ⟨rfl, by decide⟩ rfl rfl (Nat.le_of_ble_eq_true rfl) (by decide) hP_31 (Nat.le_of_ble_eq_true rfl) (fun _ => rfl) (k_f_Rule_copyFrom O f (d + 0) x7 x8 M6) (fun _ M7 => ?_)
  refine xZ.adv (me := xm30) hP_30 2 (pc' := 61) (lv' := [(0, .ref v0), (1, .ref v1)]) (st' := [.ref v1, .ref v0]) rfl ?_
  refine xZ.k_gJ (me := xm30) hP_30 rfl (fun x10 => ?_)
  refine xZ.k_pJ (me := xm30) hP_30 rfl (fun M8 => ?_)
  refine xZ.adv (me := xm30) hP_30 1 (pc' := 68) (lv' := [(0, .ref v0), (1, .ref v1)]) (st' := [.ref v1]) rfl ?_
  refine xZ.k_gR (me := xm30) hP_30 rfl (fun x11 => ?_)
  refine xZ.adv (me := xm30) hP_30 2 (pc' := 73) (lv' := [(0, .ref v0), (1, .ref v1)]) (st' := [.ref v0, .int (0 : Int32), .ref x11]) rfl ?_
  refine xZ.eqs (lv2 := [(0, .ref v0), (1, .ref v1)]) (st2 := [.ref v0, .int (yw 0), .ref x11]) rfl (by simp only [yl_lit, yL_lit, yw_add, yw_sub, yw_mul, yw_neg, yl_add, yl_sub, yl_mul, cj_and, cj_or, cj_xor, cj_shl, cj_shr, cj_ushr, cj_div, cj_i2c, cj_i2b, cj_dc, ck_and, ck_or, ck_xor, ck_shl, ck_shr, ck_ushr, ck_i2l, ck_l2i, ck_cmp]) ?_
  refine xZ.k_gR (me := xm30) hP_30 rfl (fun x12 => ?_)
  refine xZ.adv (me := xm30) hP_30 2 (pc' := 79) (lv' := [(0, .ref v0), (1, .ref v1)]) (st' := [.int (10 : Int32), .int (0 : Int32), .ref x12, .int (yw 0), .ref x11]) rfl ?_
  refine xZ.eqs (lv2 := [(0, .ref v0), (1, .ref v1)]) (st2 := [.int (yw 10), .int (yw 0), .ref x12, .int (yw 0), .ref x11]) rfl (by simp only [yl_lit, yL_lit, yw_add, yw_sub, yw_mul, yw_neg, yl_add, yl_sub, yl_mul, cj_and, cj_or, cj_xor, cj_shl, cj_shr, cj_ushr, cj_div, cj_i2c, cj_i2b, cj_dc, ck_and, ck_or, ck_xor, ck_shl, ck_shr, ck_ushr, ck_i2l, ck_l2i, ck_cmp]) ?_
  refine xZ.k_cpJ (me := xm30) hP_30 rfl (Nat.le_of_ble_eq_true rfl) (fun M9 => ?_)
  refine xZ.adv (me := xm30) hP_30 1 (pc' := 83) (lv' := [(0, .ref v0), (1, .ref v1)]) (st' := [.ref v1]) rfl ?_
  refine xZ.k_gR (me := xm30) hP_30 rfl (fun x13 => ?_)
  refine xZ.adv (me := xm30) hP_30 2 (pc' := 88) (lv' := [(0, .ref v0), (1, .ref v1)]) (st' := [.ref v0, .int (0 : Int32), .ref x13]) rfl ?_
  refine xZ.eqs (lv2 := [(0, .ref v0), (1, .ref v1)]) (st2 := [.ref v0, .int (yw 0), .ref x13]) rfl (by simp only [yl_lit, yL_lit, yw_add, yw_sub, yw_mul, yw_neg, yl_add, yl_sub, yl_mul, cj_and, cj_or, cj_xor, cj_shl, cj_shr, cj_ushr, cj_div, cj_i2c, cj_i2b, cj_dc, ck_and, ck_or, ck_xor, ck_shl, ck_shr, ck_ushr, ck_i2l, ck_l2i, ck_cmp]) ?_
  refine xZ.k_gR (me := xm30) hP_30 rfl (fun x14 => ?_)
  refine xZ.adv (me := xm30) hP_30 2 (pc' := 94) (lv' := [(0, .ref v0), (1, .ref v1)]) (st' := [.int (10 : Int32), .int (0 : Int32), .ref x14, .int (yw 0), .ref x13]) rfl ?_
  refine xZ.eqs (lv2 := [(0, .ref v0), (1, .ref v1)]) (st2 := [.int (yw 10), .int (yw 0), .ref x14, .int (yw 0), .ref x13]) rfl (by simp only [yl_lit, yL_lit, yw_add, yw_sub, yw_mul, yw_neg, yl_add, yl_sub, yl_mul, cj_and, cj_or, cj_xor, cj_shl, cj_shr, cj_ushr, cj_div, cj_i2c, cj_i2b, cj_dc, ck_and, ck_or, ck_xor, ck_shl, ck_shr, ck_ushr, ck_i2l, ck_l2i, ck_cmp]) ?_
  refine xZ.k_cpJ (me := xm30) hP_30 rfl (Nat.le_of_ble_eq_true rfl) (fun M10 => ?_)
  refine xZ.adv (me := xm30) hP_30 1 (pc' := 98) (lv' := [(0, .ref v0), (1, .ref v1)]) (st' := [.ref v1]) rfl ?_
  refine xZ.k_gR (me := xm30) hP_30 rfl (fun x15 => ?_)
  refine xZ.adv (me := xm30) hP_30 2 (pc' := 103) (lv' := [(0, .ref v0), (1, .ref v1)]) (st' := [.ref v0, .int (0 : Int32), .ref x15]) rfl ?_
  refine xZ.eqs (lv2 := [(0, .ref v0), (1, .ref v1)]) (st2 := [.ref v0, .int (yw 0), .ref x15]) rfl (by simp only [yl_lit, yL_lit, yw_add, yw_sub, yw_mul, yw_neg, yl_add, yl_sub, yl_mul, cj_and, cj_or, cj_xor, cj_shl, cj_shr, cj_ushr, cj_div, cj_i2c, cj_i2b, cj_dc, ck_and, ck_or, ck_xor, ck_shl, ck_shr, ck_ushr, ck_i2l, ck_l2i, ck_cmp]) ?_
  refine xZ.k_gR (me := xm30) hP_30 rfl (fun x16 => ?_)
  refine xZ.adv (me := xm30) hP_30 2 (pc' := 109) (lv' := [(0, .ref v0), (1, .ref v1)]) (st' := [.int (8 : Int32), .int (0 : Int32), .ref x16, .int (yw 0), .ref x15]) rfl ?_
  refine xZ.eqs (lv2 := [(0, .ref v0), (1, .ref v1)]) (st2 := [.int (yw 8), .int (yw 0), .ref x16, .int (yw 0), .ref x15]) rfl (by simp only [yl_lit, yL_lit, yw_add, yw_sub, yw_mul, yw_neg, yl_add, yl_sub, yl_mul, cj_and, cj_or, cj_xor, cj_shl, cj_shr, cj_ushr, cj_div, cj_i2c, cj_i2b, cj_dc, ck_and, ck_or, ck_xor, ck_shl, ck_shr, ck_ushr, ck_i2l, ck_l2i, ck_cmp]) ?_
  refine xZ.k_cpJ (me := xm30) hP_30 rfl (Nat.le_of_ble_eq_true rfl) (fun M11 => ?_)
  refine xZ.adv (me := xm30) hP_30 1 (pc' := 113) (lv' := [(0, .ref v0), (1, .ref v1)]) (st' := [.ref v1]) rfl ?_
  refine xZ.k_gR (me := xm30) hP_30 rfl (fun x17 => ?_)
  refine xZ.adv (me := xm30) hP_30 2 (pc' := 118) (lv' := [(0, .ref v0), (1, .ref v1)]) (st' := [.ref v0, .int (0 : Int32), .ref x17]) rfl ?_
  refine xZ.eqs (lv2 := [(0, .ref v0), (1, .ref v1)]) (st2 := [.ref v0, .int (yw 0), .ref x17]) rfl (by simp only [yl_lit, yL_lit, yw_add, yw_sub, yw_mul, yw_neg, yl_add, yl_sub, yl_mul, cj_and, cj_or, cj_xor, cj_shl, cj_shr, cj_ushr, cj_div, cj_i2c, cj_i2b, cj_dc, ck_and, ck_or, ck_xor, ck_shl, ck_shr, ck_ushr, ck_i2l, ck_l2i, ck_cmp]) ?_
  refine xZ.k_gR (me := xm30) hP_30 rfl (fun x18 => ?_)
  refine xZ.adv (me := xm30) hP_30 2 (pc' := 124) (lv' := [(0, .ref v0), (1, .ref v1)]) (st' := [.int (8 : Int32), .int (0 : Int32), .ref x18, .int (yw 0), .ref x17]) rfl ?_
  refine xZ.eqs (lv2 := [(0, .ref v0), (1, .ref v1)]) (st2 := [.int (yw 8), .int (yw 0), .ref x18, .int (yw 0), .ref x17]) rfl (by simp only [yl_lit, yL_lit, yw_add, yw_sub, yw_mul, yw_neg, yl_add, yl_sub, yl_mul, cj_and, cj_or, cj_xor, cj_shl, cj_shr, cj_ushr, cj_div, cj_i2c, cj_i2b, cj_dc, ck_and, ck_or, ck_xor, ck_shl, ck_shr, ck_ushr, ck_i2l, ck_l2i, ck_cmp]) ?_
  refine xZ.k_cpJ (me := xm30) hP_30 rfl (Nat.le_of_ble_eq_true rfl) (fun M12 => ?_)
  exact xZ.retu (me := xm30) hP_30 rfl rfl
def f_Hall_anyDevice_22 (O : Nat → Option va_E) (f : Nat) (s0 : Nat) (s1 : Int) (M : xM) : Option (Nat × xM) :=
  (aJR O M s0 s1).bind fun x1 =>
  some (x1, M)
set_option maxRecDepth 20000 in
theorem k_f_Hall_anyDevice_22 (O : Nat → Option va_E) (f d : Nat) (s0 : Nat) (s1 : Int) (M : xM) : xZ oR O (d + 0) 34 22 [] [.int (yw s1), .ref s0] M (f_Hall_anyDevice_22 O f s0 s1 M) := by
  unfold f_Hall_anyDevice_22
  refine xZ.k_aJR (me := xm34) hP_34 rfl (fun x1 => ?_)
  exact xZ.retr (me := xm34) hP_34 rfl rfl rfl
def f_Hall_anyDevice_21 (O : Nat → Option va_E) (f : Nat) (s0 : Nat) (M : xM) : Option (Nat × xM) :=
  f_Hall_anyDevice_22 O f s0 0 M
set_option maxRecDepth 20000 in
theorem k_f_Hall_anyDevice_21 (O : Nat → Option va_E) (f d : Nat) (s0 : Nat) (M : xM) : xZ oR O (d + 0) 34 21 [] [.ref s0] M (f_Hall_anyDevice_21 O f s0 M) := by
  unfold f_Hall_anyDevice_21
  refine xZ.adv (me := xm34) hP_34 1 (pc' := 22) (lv' := []) (st' := [.int (0 : Int32), .ref s0]) rfl ?_
  refine xZ.eqs (lv2 := []) (st2 := [.int (yw 0), .ref s0]) rfl (by simp only [yl_lit, yL_lit, yw_add, yw_sub, yw_mul, yw_neg, yl_add, yl_sub, yl_mul, cj_and, cj_or, cj_xor, cj_shl, cj_shr, cj_ushr, cj_div, cj_i2c, cj_i2b, cj_dc, ck_and, ck_or, ck_xor, ck_shl, ck_shr, ck_ushr, ck_i2l, ck_l2i, ck_cmp]) ?_
  exact (k_f_Hall_anyDevice_22 O f d s0 0 M)
def f_Hall_anyDevice (O : Nat → Option va_E) (f : Nat) (v0 : Nat) (v1 : Int) (M : xM) : Option (Nat × xM) :=
  (gR O M v0 4 4).bind fun x1 =>
  if yw v1 < yw 0 then (
    f_Hall_anyDevice_21 O f x1 M
  ) else
  (gR O M v0 4 4).bind fun x2 =>
  (aJN O M x2).bind fun x3 =>
  if yw x3 ≤ yw v1 then (
    f_Hall_anyDevice_21 O f x1 M
  ) else
  f_Hall_anyDevice_22 O f x1 v1 M
set_option maxRecDepth 20000 in
theorem k_f_Hall_anyDevice (O : Nat → Option va_E) (f d : Nat) (v0 : Nat) (v1 : Int) (M : xM) : xZ oR O (d + 0) 34 0 [(0, .ref v0), (1, .int (yw v1))] [] M (f_Hall_anyDevice O f v0 v1 M) := by
  unfold f_Hall_anyDevice
  refine xZ.adv (me := xm34) hP_34 1 (pc' := 1) (lv' := [(0, .ref v0), (1, .int (yw v1))]) (st' := [.ref v0]) rfl ?_
  refine xZ.k_gR (me := xm34) hP_34 rfl (fun x1 => ?_)
  refine xZ.adv (me := xm34) hP_34 1 (pc' := 5) (lv' := [(0, .ref v0), (1, .int (yw v1))]) (st' := [.int (yw v1), .ref x1]) rfl ?_
  refine xZ.jf_lt (me := xm34) hP_34 rfl (fun h1 => ?_) (fun h1 => ?_)
  · skip
    exact xZ.sub xsn (show ([0, 1] : List Nat).Nodup from by decide) (k_f_Hall_anyDevice_21 O f d x1 M)
  · skip
    refine xZ.adv (me := xm34) hP_34 2 (pc' := 10) (lv' := [(0, .ref v0), (1, .int (yw v1))]) (st' := [.ref v0, .int (yw v1), .ref x1]) rfl ?_
    refine xZ.k_gR (me := xm34) hP_34 rfl (fun x2 => ?_)
    refine xZ.k_aJN (me := xm34) hP_34 rfl (fun x3 => ?_)
    refine xZ.jc_ge (me := xm34) hP_34 rfl (fun h2 => ?_) (fun h2 => ?_)
    · skip
      exact xZ.sub xsn (show ([0, 1] : List Nat).Nodup from by decide) (k_f_Hall_anyDevice_21 O f d x1 M)
    · skip
      refine xZ.adv (me := xm34) hP_34 2 (pc' := 22) (lv' := [(0, .ref v0), (1, .int (yw v1))]) (st' := [.int (yw v1), .ref x1]) rfl ?_
      exact xZ.sub xsn (show ([0, 1] : List Nat).Nodup from by decide) (k_f_Hall_anyDevice_22 O f d x1 v1 M)
def f_Device_copyFrom (O : Nat → Option va_E) (f : Nat) (v0 : Nat) (v1 : Nat) (M : xM) : Option (Unit × xM) :=
  (gJ O M v1 3 0).bind fun x1 =>
  (pJ M v0 3 0 x1).bind fun M1 =>
  (gJ O M1 v1 3 1).bind fun x2 =>
  (pJ M1 v0 3 1 x2).bind fun M2 =>
  (gR O M2 v1 3 2).bind fun x3 =>
  (gR O M2 v0 3 2).bind fun x4 =>
  (cpJ O M2 x3 0 x4 0 40).bind fun M3 =>
  (gR O M3 v1 3 3).bind fun x5 =>
  (gR O M3 v0 3 3).bind fun x6 =>
  (cpJ O M3 x5 0 x6 0 40).bind fun M4 =>
  (gR O M4 v1 3 4).bind fun x7 =>
  (gR O M4 v0 3 4).bind fun x8 =>
  (cpJ O M4 x7 0 x8 0 40).bind fun M5 =>
  (gR O M5 v1 3 5).bind fun x9 =>
  (gR O M5 v0 3 5).bind fun x10 =>
  (cpJ O M5 x9 0 x10 0 48).bind fun M6 =>
  (gR O M6 v1 3 6).bind fun x11 =>
  (gR O M6 v0 3 6).bind fun x12 =>
  (cpJ O M6 x11 0 x12 0 48).bind fun M7 =>
  (gR O M7 v1 3 7).bind fun x13 =>
  (gR O M7 v0 3 7).bind fun x14 =>
  (cpJ O M7 x13 0 x14 0 48).bind fun M8 =>
  some ((), M8)
set_option maxRecDepth 20000 in
theorem k_f_Device_copyFrom (O : Nat → Option va_E) (f d : Nat) (v0 : Nat) (v1 : Nat) (M : xM) : xZ oU O (d + 0) 35 0 [(0, .ref v0), (1, .ref v1)] [] M (f_Device_copyFrom O f v0 v1 M) := by
  unfold f_Device_copyFrom
  refine xZ.adv (me := xm35) hP_35 2 (pc' := 2) (lv' := [(0, .ref v0), (1, .ref v1)]) (st' := [.ref v1, .ref v0]) rfl ?_
  refine xZ.k_gJ (me := xm35) hP_35 rfl (fun x1 => ?_)
  refine xZ.k_pJ (me := xm35) hP_35 rfl (fun M1 => ?_)
  refine xZ.adv (me := xm35) hP_35 2 (pc' := 10) (lv' := [(0, .ref v0), (1, .ref v1)]) (st' := [.ref v1, .ref v0]) rfl ?_
  refine xZ.k_gJ (me := xm35) hP_35 rfl (fun x2 => ?_)
  refine xZ.k_pJ (me := xm35) hP_35 rfl (fun M2 => ?_)
  refine xZ.adv (me := xm35) hP_35 1 (pc' := 17) (lv' := [(0, .ref v0), (1, .ref v1)]) (st' := [.ref v1]) rfl ?_
  refine xZ.k_gR (me := xm35) hP_35 rfl (fun x3 => ?_)
  refine xZ.adv (me := xm35) hP_35 2 (pc' := 22) (lv' := [(0, .ref v0), (1, .ref v1)]) (st' := [.ref v0, .int (0 : Int32), .ref x3]) rfl ?_
  refine xZ.eqs (lv2 := [(0, .ref v0), (1, .ref v1)]) (st2 := [.ref v0, .int (yw 0), .ref x3]) rfl (by simp only [yl_lit, yL_lit, yw_add, yw_sub, yw_mul, yw_neg, yl_add, yl_sub, yl_mul, cj_and, cj_or, cj_xor, cj_shl, cj_shr, cj_ushr, cj_div, cj_i2c, cj_i2b, cj_dc, ck_and, ck_or, ck_xor, ck_shl, ck_shr, ck_ushr, ck_i2l, ck_l2i, ck_cmp]) ?_
  refine xZ.k_gR (me := xm35) hP_35 rfl (fun x4 => ?_)
  refine xZ.adv (me := xm35) hP_35 2 (pc' := 28) (lv' := [(0, .ref v0), (1, .ref v1)]) (st' := [.int (40 : Int32), .int (0 : Int32), .ref x4, .int (yw 0), .ref x3]) rfl ?_
  refine xZ.eqs (lv2 := [(0, .ref v0), (1, .ref v1)]) (st2 := [.int (yw 40), .int (yw 0), .ref x4, .int (yw 0), .ref x3]) rfl (by simp only [yl_lit, yL_lit, yw_add, yw_sub, yw_mul, yw_neg, yl_add, yl_sub, yl_mul, cj_and, cj_or, cj_xor, cj_shl, cj_shr, cj_ushr, cj_div, cj_i2c, cj_i2b, cj_dc, ck_and, ck_or, ck_xor, ck_shl, ck_shr, ck_ushr, ck_i2l, ck_l2i, ck_cmp]) ?_
  refine xZ.k_cpJ (me := xm35) hP_35 rfl (Nat.le_of_ble_eq_true rfl) (fun M3 => ?_)
  refine xZ.adv (me := xm35) hP_35 1 (pc' := 32) (lv' := [(0, .ref v0), (1, .ref v1)]) (st' := [.ref v1]) rfl ?_
  refine xZ.k_gR (me := xm35) hP_35 rfl (fun x5 => ?_)
  refine xZ.adv (me := xm35) hP_35 2 (pc' := 37) (lv' := [(0, .ref v0), (1, .ref v1)]) (st' := [.ref v0, .int (0 : Int32), .ref x5]) rfl ?_
  refine xZ.eqs (lv2 := [(0, .ref v0), (1, .ref v1)]) (st2 := [.ref v0, .int (yw 0), .ref x5]) rfl (by simp only [yl_lit, yL_lit, yw_add, yw_sub, yw_mul, yw_neg, yl_add, yl_sub, yl_mul, cj_and, cj_or, cj_xor, cj_shl, cj_shr, cj_ushr, cj_div, cj_i2c, cj_i2b, cj_dc, ck_and, ck_or, ck_xor, ck_shl, ck_shr, ck_ushr, ck_i2l, ck_l2i, ck_cmp]) ?_
  refine xZ.k_gR (me := xm35) hP_35 rfl (fun x6 => ?_)
  refine xZ.adv (me := xm35) hP_35 2 (pc' := 43) (lv' := [(0, .ref v0), (1, .ref v1)]) (st' := [.int (40 : Int32), .int (0 : Int32), .ref x6, .int (yw 0), .ref x5]) rfl ?_
  refine xZ.eqs (lv2 := [(0, .ref v0), (1, .ref v1)]) (st2 := [.int (yw 40), .int (yw 0), .ref x6, .int (yw 0), .ref x5]) rfl (by simp only [yl_lit, yL_lit, yw_add, yw_sub, yw_mul, yw_neg, yl_add, yl_sub, yl_mul, cj_and, cj_or, cj_xor, cj_shl, cj_shr, cj_ushr, cj_div, cj_i2c, cj_i2b, cj_dc, ck_and, ck_or, ck_xor, ck_shl, ck_shr, ck_ushr, ck_i2l, ck_l2i, ck_cmp]) ?_
  refine xZ.k_cpJ (me := xm35) hP_35 rfl (Nat.le_of_ble_eq_true rfl) (fun M4 => ?_)
  refine xZ.adv (me := xm35) hP_35 1 (pc' := 47) (lv' := [(0, .ref v0), (1, .ref v1)]) (st' := [.ref v1]) rfl ?_
  refine xZ.k_gR (me := xm35) hP_35 rfl (fun x7 => ?_)
  refine xZ.adv (me := xm35) hP_35 2 (pc' := 52) (lv' := [(0, .ref v0), (1, .ref v1)]) (st' := [.ref v0, .int (0 : Int32), .ref x7]) rfl ?_
  refine xZ.eqs (lv2 := [(0, .ref v0), (1, .ref v1)]) (st2 := [.ref v0, .int (yw 0), .ref x7]) rfl (by simp only [yl_lit, yL_lit, yw_add, yw_sub, yw_mul, yw_neg, yl_add, yl_sub, yl_mul, cj_and, cj_or, cj_xor, cj_shl, cj_shr, cj_ushr, cj_div, cj_i2c, cj_i2b, cj_dc, ck_and, ck_or, ck_xor, ck_shl, ck_shr, ck_ushr, ck_i2l, ck_l2i, ck_cmp]) ?_
  refine xZ.k_gR (me := xm35) hP_35 rfl (fun x8 => ?_)
  refine xZ.adv (me := xm35) hP_35 2 (pc' := 58) (lv' := [(0, .ref v0), (1, .ref v1)]) (st' := [.int (40 : Int32), .int (0 : Int32), .ref x8, .int (yw 0), .ref x7]) rfl ?_
  refine xZ.eqs (lv2 := [(0, .ref v0), (1, .ref v1)]) (st2 := [.int (yw 40), .int (yw 0), .ref x8, .int (yw 0), .ref x7]) rfl (by simp only [yl_lit, yL_lit, yw_add, yw_sub, yw_mul, yw_neg, yl_add, yl_sub, yl_mul, cj_and, cj_or, cj_xor, cj_shl, cj_shr, cj_ushr, cj_div, cj_i2c, cj_i2b, cj_dc, ck_and, ck_or, ck_xor, ck_shl, ck_shr, ck_ushr, ck_i2l, ck_l2i, ck_cmp]) ?_
  refine xZ.k_cpJ (me := xm35) hP_35 rfl (Nat.le_of_ble_eq_true rfl) (fun M5 => ?_)
  refine xZ.adv (me := xm35) hP_35 1 (pc' := 62) (lv' := [(0, .ref v0), (1, .ref v1)]) (st' := [.ref v1]) rfl ?_
  refine xZ.k_gR (me := xm35) hP_35 rfl (fun x9 => ?_)
  refine xZ.adv (me := xm35) hP_35 2 (pc' := 67) (lv' := [(0, .ref v0), (1, .ref v1)]) (st' := [.ref v0, .int (0 : Int32), .ref x9]) rfl ?_
  refine xZ.eqs (lv2 := [(0, .ref v0), (1, .ref v1)]) (st2 := [.ref v0, .int (yw 0), .ref x9]) rfl (by simp only [yl_lit, yL_lit, yw_add, yw_sub, yw_mul, yw_neg, yl_add, yl_sub, yl_mul, cj_and, cj_or, cj_xor, cj_shl, cj_shr, cj_ushr, cj_div, cj_i2c, cj_i2b, cj_dc, ck_and, ck_or, ck_xor, ck_shl, ck_shr, ck_ushr, ck_i2l, ck_l2i, ck_cmp]) ?_
  refine xZ.k_gR (me := xm35) hP_35 rfl (fun x10 => ?_)
  refine xZ.adv (me := xm35) hP_35 2 (pc' := 73) (lv' := [(0, .ref v0), (1, .ref v1)]) (st' := [.int (48 : Int32), .int (0 : Int32), .ref x10, .int (yw 0), .ref x9]) rfl ?_
  refine xZ.eqs (lv2 := [(0, .ref v0), (1, .ref v1)]) (st2 := [.int (yw 48), .int (yw 0), .ref x10, .int (yw 0), .ref x9]) rfl (by simp only [yl_lit, yL_lit, yw_add, yw_sub, yw_mul, yw_neg, yl_add, yl_sub, yl_mul, cj_and, cj_or, cj_xor, cj_shl, cj_shr, cj_ushr, cj_div, cj_i2c, cj_i2b, cj_dc, ck_and, ck_or, ck_xor, ck_shl, ck_shr, ck_ushr, ck_i2l, ck_l2i, ck_cmp]) ?_
  refine xZ.k_cpJ (me := xm35) hP_35 rfl (Nat.le_of_ble_eq_true rfl) (fun M6 => ?_)
  refine xZ.adv (me := xm35) hP_35 1 (pc' := 77) (lv' := [(0, .ref v0), (1, .ref v1)]) (st' := [.ref v1]) rfl ?_
  refine xZ.k_gR (me := xm35) hP_35 rfl (fun x11 => ?_)
  refine xZ.adv (me := xm35) hP_35 2 (pc' := 82) (lv' := [(0, .ref v0), (1, .ref v1)]) (st' := [.ref v0, .int (0 : Int32), .ref x11]) rfl ?_
  refine xZ.eqs (lv2 := [(0, .ref v0), (1, .ref v1)]) (st2 := [.ref v0, .int (yw 0), .ref x11]) rfl (by simp only [yl_lit, yL_lit, yw_add, yw_sub, yw_mul, yw_neg, yl_add, yl_sub, yl_mul, cj_and, cj_or, cj_xor, cj_shl, cj_shr, cj_ushr, cj_div, cj_i2c, cj_i2b, cj_dc, ck_and, ck_or, ck_xor, ck_shl, ck_shr, ck_ushr, ck_i2l, ck_l2i, ck_cmp]) ?_
  refine xZ.k_gR (me := xm35) hP_35 rfl (fun x12 => ?_)
  refine xZ.adv (me := xm35) hP_35 2 (pc' := 88) (lv' := [(0, .ref v0), (1, .ref v1)]) (st' := [.int (48 : Int32), .int (0 : Int32), .ref x12, .int (yw 0), .ref x11]) rfl ?_
  refine xZ.eqs (lv2 := [(0, .ref v0), (1, .ref v1)]) (st2 := [.int (yw 48), .int (yw 0), .ref x12, .int (yw 0), .ref x11]) rfl (by simp only [yl_lit, yL_lit, yw_add, yw_sub, yw_mul, yw_neg, yl_add, yl_sub, yl_mul, cj_and, cj_or, cj_xor, cj_shl, cj_shr, cj_ushr, cj_div, cj_i2c, cj_i2b, cj_dc, ck_and, ck_or, ck_xor, ck_shl, ck_shr, ck_ushr, ck_i2l, ck_l2i, ck_cmp]) ?_
  refine xZ.k_cpJ (me := xm35) hP_35 rfl (Nat.le_of_ble_eq_true rfl) (fun M7 => ?_)
  refine xZ.adv (me := xm35) hP_35 1 (pc' := 92) (lv' := [(0, .ref v0), (1, .ref v1)]) (st' := [.ref v1]) rfl ?_
  refine xZ.k_gR (me := xm35) hP_35 rfl (fun x13 => ?_)
  refine xZ.adv (me := xm35) hP_35 2 (pc' := 97) (lv' := [(0, .ref v0), (1, .ref v1)]) (st' := [.ref v0, .int (0 : Int32), .ref x13]) rfl ?_
  refine xZ.eqs (lv2 := [(0, .ref v0), (1, .ref v1)]) (st2 := [.ref v0, .int (yw 0), .ref x13]) rfl (by simp only [yl_lit, yL_lit, yw_add, yw_sub, yw_mul, yw_neg, yl_add, yl_sub, yl_mul, cj_and, cj_or, cj_xor, cj_shl, cj_shr, cj_ushr, cj_div, cj_i2c, cj_i2b, cj_dc, ck_and, ck_or, ck_xor, ck_shl, ck_shr, ck_ushr, ck_i2l, ck_l2i, ck_cmp]) ?_
  refine xZ.k_gR (me := xm35) hP_35 rfl (fun x14 => ?_)
  refine xZ.adv (me := xm35) hP_35 2 (pc' := 103) (lv' := [(0, .ref v0), (1, .ref v1)]) (st' := [.int (48 : Int32), .int (0 : Int32), .ref x14, .int (yw 0), .ref x13]) rfl ?_
  refine xZ.eqs (lv2 := [(0, .ref v0), (1, .ref v1)]) (st2 := [.int (yw 48), .int (yw 0), .ref x14, .int (yw 0), .ref x13]) rfl (by simp only [yl_lit, yL_lit, yw_add, yw_sub, yw_mul, yw_neg, yl_add, yl_sub, yl_mul, cj_and, cj_or, cj_xor, cj_shl, cj_shr, cj_ushr, cj_div, cj_i2c, cj_i2b, cj_dc, ck_and, ck_or, ck_xor, ck_shl, ck_shr, ck_ushr, ck_i2l, ck_l2i, ck_cmp]) ?_
  refine xZ.k_cpJ (me := xm35) hP_35 rfl (Nat.le_of_ble_eq_true rfl) (fun M8 => ?_)
  exact xZ.retu (me := xm35) hP_35 rfl rfl
def f_Hall_copyFrom_82 (O : Nat → Option va_E) (f : Nat) : Nat → Nat → Nat → Int → xM → Option (Unit × xM)
  | 0, _, _, _, _ => none
  | n + 1, v0, v1, v2, M =>
    if yw 2 ≤ yw v2 then (
      (gR O M v1 4 2).bind fun x1 =>
      (gR O M v0 4 2).bind fun x2 =>
      (cpJ O M x1 0 x2 0 4).bind fun M1 =>
      (gJ O M1 v1 4 5).bind fun x3 =>
      (pJ M1 v0 4 5 x3).bind fun M2 =>
      (gR O M2 v1 4 6).bind fun x4 =>
      (gR O M2 v0 4 6).bind fun x5 =>
      (cpJ O M2 x4 0 x5 0 10).bind fun M3 =>
      (gR O M3 v1 4 7).bind fun x6 =>
      (gR O M3 v0 4 7).bind fun x7 =>
      (cpJ O M3 x6 0 x7 0 10).bind fun M4 =>
      (gR O M4 v1 4 8).bind fun x8 =>
      (gR O M4 v0 4 8).bind fun x9 =>
      (cpJ O M4 x8 0 x9 0 30).bind fun M5 =>
      (gJ O M5 v1 4 9).bind fun x10 =>
      (pJ M5 v0 4 9 x10).bind fun M6 =>
      (gR O M6 v1 4 10).bind fun x11 =>
      (gR O M6 v0 4 10).bind fun x12 =>
      (cpJ O M6 x11 0 x12 0 10).bind fun M7 =>
      (gJ O M7 v1 4 11).bind fun x13 =>
      (pJ M7 v0 4 11 x13).bind fun M8 =>
      some ((), M8)
    ) else
    (isO O M v0 4).bind fun _ =>
    xcl (f_Hall_anyDevice O f v0 v2 M) fun x14 M9 =>
    (isO O M9 v1 4).bind fun _ =>
    xcl (f_Hall_anyDevice O f v1 v2 M9) fun x15 M10 =>
    (isO O M10 x14 3).bind fun _ =>
    xcl (f_Device_copyFrom O f x14 x15 M10) fun _ M11 =>
    f_Hall_copyFrom_82 O f n v0 v1 (v2 + 1) M11
set_option maxRecDepth 20000 in
theorem k_f_Hall_copyFrom_82 (O : Nat → Option va_E) (f d : Nat) : ∀ (n : Nat) (v0 : Nat) (v1 : Nat) (v2 : Int) (M : xM), xZ oU O (d + 3) 24 82 [(0, .ref v0), (1, .ref v1), (2, .int (yw v2))] [] M (f_Hall_copyFrom_82 O f n v0 v1 v2 M) := by
  intro n
  induction n with
  | zero =>
    intro v0 v1 v2 M
    exact xZ.no
  | succ n ih =>
    intro v0 v1 v2 M
    unfold f_Hall_copyFrom_82
    refine xZ.adv (me := xm24) hP_24 2 (pc' := 84) (lv' := [(0, .ref v0), (1, .ref v1), (2, .int (yw v2))]) (st' := [.int (2 : Int32), .int (yw v2)]) rfl ?_
    refine xZ.eqs (lv2 := [(0, .ref v0), (1, .ref v1), (2, .int (yw v2))]) (st2 := [.int (yw 2), .int (yw v2)]) rfl (by simp only [yl_lit, yL_lit, yw_add, yw_sub, yw_mul, yw_neg, yl_add, yl_sub, yl_mul, cj_and, cj_or, cj_xor, cj_shl, cj_shr, cj_ushr, cj_div, cj_i2c, cj_i2b, cj_dc, ck_and, ck_or, ck_xor, ck_shl, ck_shr, ck_ushr, ck_i2l, ck_l2i, ck_cmp]) ?_
    refine xZ.jc_ge (me := xm24) hP_24 rfl (fun h1 => ?_) (fun h1 => ?_)
    · skip
      refine xZ.adv (me := xm24) hP_24 1 (pc' := 107) (lv' := [(0, .ref v0), (1, .ref v1), (2, .int (yw v2))]) (st' := [.ref v1]) rfl ?_
      refine xZ.k_gR (me := xm24) hP_24 rfl (fun x1 => ?_)
      refine xZ.adv (me := xm24) hP_24 2 (pc' := 112) (lv' := [(0, .ref v0), (1, .ref v1), (2, .int (yw v2))]) (st' := [.ref v0, .int (0 : Int32), .ref x1]) rfl ?_
      refine xZ.eqs (lv2 := [(0, .ref v0), (1, .ref v1), (2, .int (yw v2))]) (st2 := [.ref v0, .int (yw 0), .ref x1]) rfl (by simp only [yl_lit, yL_lit, yw_add, yw_sub, yw_mul, yw_neg, yl_add, yl_sub, yl_mul, cj_and, cj_or, cj_xor, cj_shl, cj_shr, cj_ushr, cj_div, cj_i2c, cj_i2b, cj_dc, ck_and, ck_or, ck_xor, ck_shl, ck_shr, ck_ushr, ck_i2l, ck_l2i, ck_cmp]) ?_
      refine xZ.k_gR (me := xm24) hP_24 rfl (fun x2 => ?_)
      refine xZ.adv (me := xm24) hP_24 2 (pc' := 117) (lv' := [(0, .ref v0), (1, .ref v1), (2, .int (yw v2))]) (st' := [.int (4 : Int32), .int (0 : Int32), .ref x2, .int (yw 0), .ref x1]) rfl ?_
      refine xZ.eqs (lv2 := [(0, .ref v0), (1, .ref v1), (2, .int (yw v2))]) (st2 := [.int (yw 4), .int (yw 0), .ref x2, .int (yw 0), .ref x1]) rfl (by simp only [yl_lit, yL_lit, yw_add, yw_sub, yw_mul, yw_neg, yl_add, yl_sub, yl_mul, cj_and, cj_or, cj_xor, cj_shl, cj_shr, cj_ushr, cj_div, cj_i2c, cj_i2b, cj_dc, ck_and, ck_or, ck_xor, ck_shl, ck_shr, ck_ushr, ck_i2l, ck_l2i, ck_cmp]) ?_
      refine xZ.k_cpJ (me := xm24) hP_24 rfl (Nat.le_of_ble_eq_true rfl) (fun M1 => ?_)
      refine xZ.adv (me := xm24) hP_24 2 (pc' := 122) (lv' := [(0, .ref v0), (1, .ref v1), (2, .int (yw v2))]) (st' := [.ref v1, .ref v0]) rfl ?_
      refine xZ.k_gJ (me := xm24) hP_24 rfl (fun x3 => ?_)
      refine xZ.k_pJ (me := xm24) hP_24 rfl (fun M2 => ?_)
      refine xZ.adv (me := xm24) hP_24 1 (pc' := 129) (lv' := [(0, .ref v0), (1, .ref v1), (2, .int (yw v2))]) (st' := [.ref v1]) rfl ?_
      refine xZ.k_gR (me := xm24) hP_24 rfl (fun x4 => ?_)
      refine xZ.adv (me := xm24) hP_24 2 (pc' := 134) (lv' := [(0, .ref v0), (1, .ref v1), (2, .int (yw v2))]) (st' := [.ref v0, .int (0 : Int32), .ref x4]) rfl ?_
      refine xZ.eqs (lv2 := [(0, .ref v0), (1, .ref v1), (2, .int (yw v2))]) (st2 := [.ref v0, .int (yw 0), .ref x4]) rfl (by simp only [yl_lit, yL_lit, yw_add, yw_sub, yw_mul, yw_neg, yl_add, yl_sub, yl_mul, cj_and, cj_or, cj_xor, cj_shl, cj_shr, cj_ushr, cj_div, cj_i2c, cj_i2b, cj_dc, ck_and, ck_or, ck_xor, ck_shl, ck_shr, ck_ushr, ck_i2l, ck_l2i, ck_cmp]) ?_
      refine xZ.k_gR (me := xm24) hP_24 rfl (fun x5 => ?_)
      refine xZ.adv (me := xm24) hP_24 2 (pc' := 140) (lv' := [(0, .ref v0), (1, .ref v1), (2, .int (yw v2))]) (st' := [.int (10 : Int32), .int (0 : Int32), .ref x5, .int (yw 0), .ref x4]) rfl ?_
      refine xZ.eqs (lv2 := [(0, .ref v0), (1, .ref v1), (2, .int (yw v2))]) (st2 := [.int (yw 10), .int (yw 0), .ref x5, .int (yw 0), .ref x4]) rfl (by simp only [yl_lit, yL_lit, yw_add, yw_sub, yw_mul, yw_neg, yl_add, yl_sub, yl_mul, cj_and, cj_or, cj_xor, cj_shl, cj_shr, cj_ushr, cj_div, cj_i2c, cj_i2b, cj_dc, ck_and, ck_or, ck_xor, ck_shl, ck_shr, ck_ushr, ck_i2l, ck_l2i, ck_cmp]) ?_
      refine xZ.k_cpJ (me := xm24) hP_24 rfl (Nat.le_of_ble_eq_true rfl) (fun M3 => ?_)
      refine xZ.adv (me := xm24) hP_24 1 (pc' := 144) (lv' := [(0, .ref v0), (1, .ref v1), (2, .int (yw v2))]) (st' := [.ref v1]) rfl ?_
      refine xZ.k_gR (me := xm24) hP_24 rfl (fun x6 => ?_)
      refine xZ.adv (me := xm24) hP_24 2 (pc' := 149) (lv' := [(0, .ref v0), (1, .ref v1), (2, .int (yw v2))]) (st' := [.ref v0, .int (0 : Int32), .ref x6]) rfl ?_
      refine xZ.eqs (lv2 := [(0, .ref v0), (1, .ref v1), (2, .int (yw v2))]) (st2 := [.ref v0, .int (yw 0), .ref x6]) rfl (by simp only [yl_lit, yL_lit, yw_add, yw_sub, yw_mul, yw_neg, yl_add, yl_sub, yl_mul, cj_and, cj_or, cj_xor, cj_shl, cj_shr, cj_ushr, cj_div, cj_i2c, cj_i2b, cj_dc, ck_and, ck_or, ck_xor, ck_shl, ck_shr, ck_ushr, ck_i2l, ck_l2i, ck_cmp]) ?_
      refine xZ.k_gR (me := xm24) hP_24 rfl (fun x7 => ?_)
      refine xZ.adv (me := xm24) hP_24 2 (pc' := 155) (lv' := [(0, .ref v0), (1, .ref v1), (2, .int (yw v2))]) (st' := [.int (10 : Int32), .int (0 : Int32), .ref x7, .int (yw 0), .ref x6]) rfl ?_
      refine xZ.eqs (lv2 := [(0, .ref v0), (1, .ref v1), (2, .int (yw v2))]) (st2 := [.int (yw 10), .int (yw 0), .ref x7, .int (yw 0), .ref x6]) rfl (by simp only [yl_lit, yL_lit, yw_add, yw_sub, yw_mul, yw_neg, yl_add, yl_sub, yl_mul, cj_and, cj_or, cj_xor, cj_shl, cj_shr, cj_ushr, cj_div, cj_i2c, cj_i2b, cj_dc, ck_and, ck_or, ck_xor, ck_shl, ck_shr, ck_ushr, ck_i2l, ck_l2i, ck_cmp]) ?_
      refine xZ.k_cpJ (me := xm24) hP_24 rfl (Nat.le_of_ble_eq_true rfl) (fun M4 => ?_)
      refine xZ.adv (me := xm24) hP_24 1 (pc' := 159) (lv' := [(0, .ref v0), (1, .ref v1), (2, .int (yw v2))]) (st' := [.ref v1]) rfl ?_
      refine xZ.k_gR (me := xm24) hP_24 rfl (fun x8 => ?_)
      refine xZ.adv (me := xm24) hP_24 2 (pc' := 164) (lv' := [(0, .ref v0), (1, .ref v1), (2, .int (yw v2))]) (st' := [.ref v0, .int (0 : Int32), .ref x8]) rfl ?_
      refine xZ.eqs (lv2 := [(0, .ref v0), (1, .ref v1), (2, .int (yw v2))]) (st2 := [.ref v0, .int (yw 0), .ref x8]) rfl (by simp only [yl_lit, yL_lit, yw_add, yw_sub, yw_mul, yw_neg, yl_add, yl_sub, yl_mul, cj_and, cj_or, cj_xor, cj_shl, cj_shr, cj_ushr, cj_div, cj_i2c, cj_i2b, cj_dc, ck_and, ck_or, ck_xor, ck_shl, ck_shr, ck_ushr, ck_i2l, ck_l2i, ck_cmp]) ?_
      refine xZ.k_gR (me := xm24) hP_24 rfl (fun x9 => ?_)
      refine xZ.adv (me := xm24) hP_24 2 (pc' := 170) (lv' := [(0, .ref v0), (1, .ref v1), (2, .int (yw v2))]) (st' := [.int (30 : Int32), .int (0 : Int32), .ref x9, .int (yw 0), .ref x8]) rfl ?_
      refine xZ.eqs (lv2 := [(0, .ref v0), (1, .ref v1), (2, .int (yw v2))]) (st2 := [.int (yw 30), .int (yw 0), .ref x9, .int (yw 0), .ref x8]) rfl (by simp only [yl_lit, yL_lit, yw_add, yw_sub, yw_mul, yw_neg, yl_add, yl_sub, yl_mul, cj_and, cj_or, cj_xor, cj_shl, cj_shr, cj_ushr, cj_div, cj_i2c, cj_i2b, cj_dc, ck_and, ck_or, ck_xor, ck_shl, ck_shr, ck_ushr, ck_i2l, ck_l2i, ck_cmp]) ?_
      refine xZ.k_cpJ (me := xm24) hP_24 rfl (Nat.le_of_ble_eq_true rfl) (fun M5 => ?_)
      refine xZ.adv (me := xm24) hP_24 2 (pc' := 175) (lv' := [(0, .ref v0), (1, .ref v1), (2, .int (yw v2))]) (st' := [.ref v1, .ref v0]) rfl ?_
      refine xZ.k_gJ (me := xm24) hP_24 rfl (fun x10 => ?_)
      refine xZ.k_pJ (me := xm24) hP_24 rfl (fun M6 => ?_)
      refine xZ.adv (me := xm24) hP_24 1 (pc' := 182) (lv' := [(0, .ref v0), (1, .ref v1), (2, .int (yw v2))]) (st' := [.ref v1]) rfl ?_
      refine xZ.k_gR (me := xm24) hP_24 rfl (fun x11 => ?_)
      refine xZ.adv (me := xm24) hP_24 2 (pc' := 187) (lv' := [(0, .ref v0), (1, .ref v1), (2, .int (yw v2))]) (st' := [.ref v0, .int (0 : Int32), .ref x11]) rfl ?_
      refine xZ.eqs (lv2 := [(0, .ref v0), (1, .ref v1), (2, .int (yw v2))]) (st2 := [.ref v0, .int (yw 0), .ref x11]) rfl (by simp only [yl_lit, yL_lit, yw_add, yw_sub, yw_mul, yw_neg, yl_add, yl_sub, yl_mul, cj_and, cj_or, cj_xor, cj_shl, cj_shr, cj_ushr, cj_div, cj_i2c, cj_i2b, cj_dc, ck_and, ck_or, ck_xor, ck_shl, ck_shr, ck_ushr, ck_i2l, ck_l2i, ck_cmp]) ?_
      refine xZ.k_gR (me := xm24) hP_24 rfl (fun x12 => ?_)
      refine xZ.adv (me := xm24) hP_24 2 (pc' := 193) (lv' := [(0, .ref v0), (1, .ref v1), (2, .int (yw v2))]) (st' := [.int (10 : Int32), .int (0 : Int32), .ref x12, .int (yw 0), .ref x11]) rfl ?_
      refine xZ.eqs (lv2 := [(0, .ref v0), (1, .ref v1), (2, .int (yw v2))]) (st2 := [.int (yw 10), .int (yw 0), .ref x12, .int (yw 0), .ref x11]) rfl (by simp only [yl_lit, yL_lit, yw_add, yw_sub, yw_mul, yw_neg, yl_add, yl_sub, yl_mul, cj_and, cj_or, cj_xor, cj_shl, cj_shr, cj_ushr, cj_div, cj_i2c, cj_i2b, cj_dc, ck_and, ck_or, ck_xor, ck_shl, ck_shr, ck_ushr, ck_i2l, ck_l2i, ck_cmp]) ?_
      refine xZ.k_cpJ (me := xm24) hP_24 rfl (Nat.le_of_ble_eq_true rfl) (fun M7 => ?_)
      refine xZ.adv (me := xm24) hP_24 2 (pc' := 198) (lv' := [(0, .ref v0), (1, .ref v1), (2, .int (yw v2))]) (st' := [.ref v1, .ref v0]) rfl ?_
      refine xZ.k_gJ (me := xm24) hP_24 rfl (fun x13 => ?_)
      refine xZ.k_pJ (me := xm24) hP_24 rfl (fun M8 => ?_)
      exact xZ.retu (me := xm24) hP_24 rfl rfl
    · skip
      refine xZ.adv (me := xm24) hP_24 2 (pc' := 89) (lv' := [(0, .ref v0), (1, .ref v1), (2, .int (yw v2))]) (st' := [.int (yw v2), .ref v0]) rfl ?_
      refine xZ.callv (κ := oR) (av := [.int (yw v2)]) (rest := []) (st' := fun x14 => [.ref x14]) (k0 := v0) (me := xm24) hP_24 rfl (Or.inl rfl) ⟨rfl, by decide⟩ rfl rfl (Nat.le_of_ble_eq_true rfl) (by decide) hP_34 (Nat.le_of_ble_eq_true rfl) (fun _ => rfl) (k_f_Hall_anyDevice O f (d + 2) v0 v2 M) (fun x14 M9 => ?_)
      refine xZ.adv (me := xm24) hP_24 2 (pc' := 94) (lv' := [(0, .ref v0), (1, .ref v1), (2, .int (yw v2))]) (st' := [.int (yw v2), .ref v1, .ref x14]) rfl ?_
      refine xZ.callv (κ := oR) (av := [.int (yw v2)]) (rest := [.ref x14]) (st' := fun x15 => [.ref x15, .ref x14]) (k0 := v1) (me := xm24) hP_24 rfl (Or.inl rfl) ⟨rfl, by decide⟩ rfl rfl (Nat.le_of_ble_eq_true rfl) (by decide) hP_34 (Nat.le_of_ble_eq_true rfl) (fun _ => rfl) (k_f_Hall_anyDevice O f (d + 2) v1 v2 M9) (fun x15 M10 => ?_)
      refine xZ.callv (κ := oU) (av := [.ref x15]) (rest := []) (st' := fun _ => []) (k0 := x14) (me := xm24) hP_24 rfl (Or.inl rfl) ⟨rfl, by decide⟩ rfl rfl (Nat.le_of_ble_eq_true rfl) (by decide) hP_35 (Nat.le_of_ble_eq_true rfl) (fun _ => rfl) (k_f_Device_copyFrom O f (d + 2) x14 x15 M10) (fun _ M11 => ?_)
      refine xZ.adv (me := xm24) hP_24 2 (pc' := 82) (lv' := [(2, .int ((yw v2) + (1 : Int32))), (0, .ref v0), (1, .ref v1)]) (st' := []) rfl ?_
      refine xZ.eqs (lv2 := [(2, .int (yw (v2 + 1))), (0, .ref v0), (1, .ref v1)]) (st2 := []) (by simp only [yl_lit, yL_lit, yw_add, yw_sub, yw_mul, yw_neg, yl_add, yl_sub, yl_mul, cj_and, cj_or, cj_xor, cj_shl, cj_shr, cj_ushr, cj_div, cj_i2c, cj_i2b, cj_dc, ck_and, ck_or, ck_xor, ck_shl, ck_shr, ck_ushr, ck_i2l, ck_l2i, ck_cmp]) rfl ?_
      exact xZ.sub (xsc (.tail _ (.head _)) (xsc (.tail _ (.tail _ (.head _))) (xsc (.head _) xsn))) (show ([2, 0, 1] : List Nat).Nodup from by decide) (ih v0 v1 (v2 + 1) M11)
def f_Hall_copyFrom_55 (O : Nat → Option va_E) (f : Nat) : Nat → Nat → Nat → Int → xM → Option (Unit × xM)
  | 0, _, _, _, _ => none
  | n + 1, v0, v1, v2, M =>
    if yw 12 ≤ yw v2 then (
      f_Hall_copyFrom_82 O f f v0 v1 0 M
    ) else
    (isO O M v0 4).bind fun _ =>
    xcl (f_Hall_anySeries O f v0 v2 M) fun x1 M1 =>
    (isO O M1 v1 4).bind fun _ =>
    xcl (f_Hall_anySeries O f v1 v2 M1) fun x2 M2 =>
    (isO O M2 x1 10).bind fun _ =>
    xcl (f_Series_copyFrom O f x1 x2 M2) fun _ M3 =>
    f_Hall_copyFrom_55 O f n v0 v1 (v2 + 1) M3
set_option maxRecDepth 20000 in
theorem k_f_Hall_copyFrom_55 (O : Nat → Option va_E) (f d : Nat) : ∀ (n : Nat) (v0 : Nat) (v1 : Nat) (v2 : Int) (M : xM), xZ oU O (d + 3) 24 55 [(0, .ref v0), (1, .ref v1), (2, .int (yw v2))] [] M (f_Hall_copyFrom_55 O f n v0 v1 v2 M) := by
  intro n
  induction n with
  | zero =>
    intro v0 v1 v2 M
    exact xZ.no
  | succ n ih =>
    intro v0 v1 v2 M
    unfold f_Hall_copyFrom_55
    refine xZ.adv (me := xm24) hP_24 2 (pc' := 58) (lv' := [(0, .ref v0), (1, .ref v1), (2, .int (yw v2))]) (st' := [.int (12 : Int32), .int (yw v2)]) rfl ?_
    refine xZ.eqs (lv2 := [(0, .ref v0), (1, .ref v1), (2, .int (yw v2))]) (st2 := [.int (yw 12), .int (yw v2)]) rfl (by simp only [yl_lit, yL_lit, yw_add, yw_sub, yw_mul, yw_neg, yl_add, yl_sub, yl_mul, cj_and, cj_or, cj_xor, cj_shl, cj_shr, cj_ushr, cj_div, cj_i2c, cj_i2b, cj_dc, ck_and, ck_or, ck_xor, ck_shl, ck_shr, ck_ushr, ck_i2l, ck_l2i, ck_cmp]) ?_
    refine xZ.jc_ge (me := xm24) hP_24 rfl (fun h1 => ?_) (fun h1 => ?_)
    · skip
      refine xZ.adv (me := xm24) hP_24 2 (pc' := 82) (lv' := [(2, .int (0 : Int32)), (0, .ref v0), (1, .ref v1)]) (st' := []) rfl ?_
      refine xZ.eqs (lv2 := [(2, .int (yw 0)), (0, .ref v0), (1, .ref v1)]) (st2 := []) (by simp only [yl_lit, yL_lit, yw_add, yw_sub, yw_mul, yw_neg, yl_add, yl_sub, yl_mul, cj_and, cj_or, cj_xor, cj_shl, cj_shr, cj_ushr, cj_div, cj_i2c, cj_i2b, cj_dc, ck_and, ck_or, ck_xor, ck_shl, ck_shr, ck_ushr, ck_i2l, ck_l2i, ck_cmp]) rfl ?_
      exact xZ.sub (xsc (.tail _ (.head _)) (xsc (.tail _ (.tail _ (.head _))) (xsc (.head _) xsn))) (show ([2, 0, 1] : List Nat).Nodup from by decide) (k_f_Hall_copyFrom_82 O f d f v0 v1 0 M)
    · skip
      refine xZ.adv (me := xm24) hP_24 2 (pc' := 63) (lv' := [(0, .ref v0), (1, .ref v1), (2, .int (yw v2))]) (st' := [.int (yw v2), .ref v0]) rfl ?_
      refine xZ.callv (κ := oR) (av := [.int (yw v2)]) (rest := []) (st' := fun x1 => [.ref x1]) (k0 := v0) (me := xm24) hP_24 rfl (Or.inl rfl) ⟨rfl, by decide⟩ rfl rfl (Nat.le_of_ble_eq_true rfl) (by decide) hP_29 (Nat.le_of_ble_eq_true rfl) (fun _ => rfl) (k_f_Hall_anySeries O f (d + 2) v0 v2 M) (fun x1 M1 => ?_)
      refine xZ.adv (me := xm24) hP_24 2 (pc' := 68) (lv' := [(0, .ref v0), (1, .ref v1), (2, .int (yw v2))]) (st' := [.int (yw v2), .ref v1, .ref x1]) rfl ?_
      refine xZ.callv (κ := oR) (av := [.int (yw v2)]) (rest := [.ref x1]) (st' := fun x2 => [.ref x2, .ref x1]) (k0 := v1) (me := xm24) hP_24 rfl (Or.inl rfl) ⟨rfl, by decide⟩ rfl rfl (Nat.le_of_ble_eq_true rfl) (by decide) hP_29 (Nat.le_of_ble_eq_true rfl) (fun _ => rfl) (k_f_Hall_anySeries O f (d + 2) v1 v2 M1) (fun x2 M2 => ?_)
      refine xZ.callv (κ := oU) (av := [.ref x2]) (rest := []) (st' := fun _ => []) (k0 := x1) (me := xm24) hP_24 rfl (Or.inl rfl) ⟨rfl, by decide⟩ rfl rfl (Nat.le_of_ble_eq_true rfl) (by decide) hP_30 (Nat.le_of_ble_eq_true rfl) (fun _ => rfl) (k_f_Series_copyFrom O f (d + 0) x1 x2 M2) (fun _ M3 => ?_)
      refine xZ.adv (me := xm24) hP_24 2 (pc' := 55) (lv' := [(2, .int ((yw v2) + (1 : Int32))), (0, .ref v0), (1, .ref v1)]) (st' := []) rfl ?_
      refine xZ.eqs (lv2 := [(2, .int (yw (v2 + 1))), (0, .ref v0), (1, .ref v1)]) (st2 := []) (by simp only [yl_lit, yL_lit, yw_add, yw_sub, yw_mul, yw_neg, yl_add, yl_sub, yl_mul, cj_and, cj_or, cj_xor, cj_shl, cj_shr, cj_ushr, cj_div, cj_i2c, cj_i2b, cj_dc, ck_and, ck_or, ck_xor, ck_shl, ck_shr, ck_ushr, ck_i2l, ck_l2i, ck_cmp]) rfl ?_
      exact xZ.sub (xsc (.tail _ (.head _)) (xsc (.tail _ (.tail _ (.head _))) (xsc (.head _) xsn))) (show ([2, 0, 1] : List Nat).Nodup from by decide) (ih v0 v1 (v2 + 1) M3)
def f_Hall_copyFrom_28 (O : Nat → Option va_E) (f : Nat) : Nat → Nat → Nat → Int → xM → Option (Unit × xM)
  | 0, _, _, _, _ => none
  | n + 1, v0, v1, v2, M =>
    if yw 8 ≤ yw v2 then (
      f_Hall_copyFrom_55 O f f v0 v1 0 M
    ) else
    (isO O M v0 4).bind fun _ =>
    xcl (f_Hall_anyPerson O f v0 v2 M) fun x1 M1 =>
    (isO O M1 v1 4).bind fun _ =>
    xcl (f_Hall_anyPerson O f v1 v2 M1) fun x2 M2 =>
    (isO O M2 x1 6).bind fun _ =>
    xcl (f_Person_copyFrom O f x1 x2 M2) fun _ M3 =>
    f_Hall_copyFrom_28 O f n v0 v1 (v2 + 1) M3
set_option maxRecDepth 20000 in
theorem k_f_Hall_copyFrom_28 (O : Nat → Option va_E) (f d : Nat) : ∀ (n : Nat) (v0 : Nat) (v1 : Nat) (v2 : Int) (M : xM), xZ oU O (d + 3) 24 28 [(0, .ref v0), (1, .ref v1), (2, .int (yw v2))] [] M (f_Hall_copyFrom_28 O f n v0 v1 v2 M) := by
  intro n
  induction n with
  | zero =>
    intro v0 v1 v2 M
    exact xZ.no
  | succ n ih =>
    intro v0 v1 v2 M
    unfold f_Hall_copyFrom_28
    refine xZ.adv (me := xm24) hP_24 2 (pc' := 31) (lv' := [(0, .ref v0), (1, .ref v1), (2, .int (yw v2))]) (st' := [.int (8 : Int32), .int (yw v2)]) rfl ?_
    refine xZ.eqs (lv2 := [(0, .ref v0), (1, .ref v1), (2, .int (yw v2))]) (st2 := [.int (yw 8), .int (yw v2)]) rfl (by simp only [yl_lit, yL_lit, yw_add, yw_sub, yw_mul, yw_neg, yl_add, yl_sub, yl_mul, cj_and, cj_or, cj_xor, cj_shl, cj_shr, cj_ushr, cj_div, cj_i2c, cj_i2b, cj_dc, ck_and, ck_or, ck_xor, ck_shl, ck_shr, ck_ushr, ck_i2l, ck_l2i, ck_cmp]) ?_
    refine xZ.jc_ge (me := xm24) hP_24 rfl (fun h1 => ?_) (fun h1 => ?_)
    · skip
      refine xZ.adv (me := xm24) hP_24 2 (pc' := 55) (lv' := [(2, .int (0 : Int32)), (0, .ref v0), (1, .ref v1)]) (st' := []) rfl ?_
      refine xZ.eqs (lv2 := [(2, .int (yw 0)), (0, .ref v0), (1, .ref v1)]) (st2 := []) (by simp only [yl_lit, yL_lit, yw_add, yw_sub, yw_mul, yw_neg, yl_add, yl_sub, yl_mul, cj_and, cj_or, cj_xor, cj_shl, cj_shr, cj_ushr, cj_div, cj_i2c, cj_i2b, cj_dc, ck_and, ck_or, ck_xor, ck_shl, ck_shr, ck_ushr, ck_i2l, ck_l2i, ck_cmp]) rfl ?_
      exact xZ.sub (xsc (.tail _ (.head _)) (xsc (.tail _ (.tail _ (.head _))) (xsc (.head _) xsn))) (show ([2, 0, 1] : List Nat).Nodup from by decide) (k_f_Hall_copyFrom_55 O f d f v0 v1 0 M)
    · skip
      refine xZ.adv (me := xm24) hP_24 2 (pc' := 36) (lv' := [(0, .ref v0), (1, .ref v1), (2, .int (yw v2))]) (st' := [.int (yw v2), .ref v0]) rfl ?_
      refine xZ.callv (κ := oR) (av := [.int (yw v2)]) (rest := []) (st' := fun x1 => [.ref x1]) (k0 := v0) (me := xm24) hP_24 rfl (Or.inl rfl) ⟨rfl, by decide⟩ rfl rfl (Nat.le_of_ble_eq_true rfl) (by decide) hP_26 (Nat.le_of_ble_eq_true rfl) (fun _ => rfl) (k_f_Hall_anyPerson O f (d + 2) v0 v2 M) (fun x1 M1 => ?_)
      refine xZ.adv (me := xm24) hP_24 2 (pc' := 41) (lv' := [(0, .ref v0), (1, .ref v1), (2, .int (yw v2))]) (st' := [.int (yw v2), .ref v1, .ref x1]) rfl ?_
      refine xZ.callv (κ := oR) (av := [.int (yw v2)]) (rest := [.ref x1]) (st' := fun x2 => [.ref x2, .ref x1]) (k0 := v1) (me := xm24) hP_24 rfl (Or.inl rfl) ⟨rfl, by decide⟩ rfl rfl (Nat.le_of_ble_eq_true rfl) (by decide) hP_26 (Nat.le_of_ble_eq_true rfl) (fun _ => rfl) (k_f_Hall_anyPerson O f (d + 2) v1 v2 M1) (fun x2 M2 => ?_)
      refine xZ.callv (κ := oU) (av := [.ref x2]) (rest := []) (st' := fun _ => []) (k0 := x1) (me := xm24) hP_24 rfl (Or.inl rfl) ⟨rfl, by decide⟩ rfl rfl (Nat.le_of_ble_eq_true rfl) (by decide) hP_27 (Nat.le_of_ble_eq_true rfl) (fun _ => rfl) (k_f_Person_copyFrom O f (d + 1) x1 x2 M2) (fun _ M3 => ?_)
      refine xZ.adv (me := xm24) hP_24 2 (pc' := 28) (lv' := [(2, .int ((yw v2) + (1 : Int32))), (0, .ref v0), (1, .ref v1)]) (st' := []) rfl ?_
      refine xZ.eqs (lv2 := [(2, .int (yw (v2 + 1))), (0, .ref v0), (1, .ref v1)]) (st2 := []) (by simp only [yl_lit, yL_lit, yw_add, yw_sub, yw_mul, yw_neg, yl_add, yl_sub, yl_mul, cj_and, cj_or, cj_xor, cj_shl, cj_shr, cj_ushr, cj_div, cj_i2c, cj_i2b, cj_dc, ck_and, ck_or, ck_xor, ck_shl, ck_shr, ck_ushr, ck_i2l, ck_l2i, ck_cmp]) rfl ?_
      exact xZ.sub (xsc (.tail _ (.head _)) (xsc (.tail _ (.tail _ (.head _))) (xsc (.head _) xsn))) (show ([2, 0, 1] : List Nat).Nodup from by decide) (ih v0 v1 (v2 + 1) M3)
def f_Hall_copyFrom_2 (O : Nat → Option va_E) (f : Nat) : Nat → Nat → Nat → Int → xM → Option (Unit × xM)
  | 0, _, _, _, _ => none
  | n + 1, v0, v1, v2, M =>
    if yw 3 ≤ yw v2 then (
      f_Hall_copyFrom_28 O f f v0 v1 0 M
    ) else
    (isO O M v0 4).bind fun _ =>
    xcl (f_Hall_anyZone O f v0 v2 M) fun x1 M1 =>
    (isO O M1 v1 4).bind fun _ =>
    xcl (f_Hall_anyZone O f v1 v2 M1) fun x2 M2 =>
    (isO O M2 x1 11).bind fun _ =>
    xcl (f_Zone_copyFrom O f x1 x2 M2) fun _ M3 =>
    f_Hall_copyFrom_2 O f n v0 v1 (v2 + 1) M3
set_option maxRecDepth 20000 in
theorem k_f_Hall_copyFrom_2 (O : Nat → Option va_E) (f d : Nat) : ∀ (n : Nat) (v0 : Nat) (v1 : Nat) (v2 : Int) (M : xM), xZ oU O (d + 3) 24 2 [(0, .ref v0), (1, .ref v1), (2, .int (yw v2))] [] M (f_Hall_copyFrom_2 O f n v0 v1 v2 M) := by
  intro n
  induction n with
  | zero =>
    intro v0 v1 v2 M
    exact xZ.no
  | succ n ih =>
    intro v0 v1 v2 M
    unfold f_Hall_copyFrom_2
    refine xZ.adv (me := xm24) hP_24 2 (pc' := 4) (lv' := [(0, .ref v0), (1, .ref v1), (2, .int (yw v2))]) (st' := [.int (3 : Int32), .int (yw v2)]) rfl ?_
    refine xZ.eqs (lv2 := [(0, .ref v0), (1, .ref v1), (2, .int (yw v2))]) (st2 := [.int (yw 3), .int (yw v2)]) rfl (by simp only [yl_lit, yL_lit, yw_add, yw_sub, yw_mul, yw_neg, yl_add, yl_sub, yl_mul, cj_and, cj_or, cj_xor, cj_shl, cj_shr, cj_ushr, cj_div, cj_i2c, cj_i2b, cj_dc, ck_and, ck_or, ck_xor, ck_shl, ck_shr, ck_ushr, ck_i2l, ck_l2i, ck_cmp]) ?_
    refine xZ.jc_ge (me := xm24) hP_24 rfl (fun h1 => ?_) (fun h1 => ?_)
    · skip
      refine xZ.adv (me := xm24) hP_24 2 (pc' := 28) (lv' := [(2, .int (0 : Int32)), (0, .ref v0), (1, .ref v1)]) (st' := []) rfl ?_
      refine xZ.eqs (lv2 := [(2, .int (yw 0)), (0, .ref v0), (1, .ref v1)]) (st2 := []) (by simp only [yl_lit, yL_lit, yw_add, yw_sub, yw_mul, yw_neg, yl_add, yl_sub, yl_mul, cj_and, cj_or, cj_xor, cj_shl, cj_shr, cj_ushr, cj_div, cj_i2c, cj_i2b, cj_dc, ck_and, ck_or, ck_xor, ck_shl, ck_shr, ck_ushr, ck_i2l, ck_l2i, ck_cmp]) rfl ?_
      exact xZ.sub (xsc (.tail _ (.head _)) (xsc (.tail _ (.tail _ (.head _))) (xsc (.head _) xsn))) (show ([2, 0, 1] : List Nat).Nodup from by decide) (k_f_Hall_copyFrom_28 O f d f v0 v1 0 M)
    · skip
      refine xZ.adv (me := xm24) hP_24 2 (pc' := 9) (lv' := [(0, .ref v0), (1, .ref v1), (2, .int (yw v2))]) (st' := [.int (yw v2), .ref v0]) rfl ?_
      refine xZ.callv (κ := oR) (av := [.int (yw v2)]) (rest := []) (st' := fun x1 => [.ref x1]) (k0 := v0) (me := xm24) hP_24 rfl (Or.inl rfl) ⟨rfl, by decide⟩ rfl rfl (Nat.le_of_ble_eq_true rfl) (by decide) hP_21 (Nat.le_of_ble_eq_true rfl) (fun _ => rfl) (k_f_Hall_anyZone O f (d + 2) v0 v2 M) (fun x1 M1 => ?_)
      refine xZ.adv (me := xm24) hP_24 2 (pc' := 14) (lv' := [(0, .ref v0), (1, .ref v1), (2, .int (yw v2))]) (st' := [.int (yw v2), .ref v1, .ref x1]) rfl ?_
      refine xZ.callv (κ := oR) (av := [.int (yw v2)]) (rest := [.ref x1]) (st' := fun x2 => [.ref x2, .ref x1]) (k0 := v1) (me := xm24) hP_24 rfl (Or.inl rfl) ⟨rfl, by decide⟩ rfl rfl (Nat.le_of_ble_eq_true rfl) (by decide) hP_21 (Nat.le_of_ble_eq_true rfl) (fun _ => rfl) (k_f_Hall_anyZone O f (d + 2) v1 v2 M1) (fun x2 M2 => ?_)
      refine xZ.callv (κ := oU) (av := [.ref x2]) (rest := []) (st' := fun _ => []) (k0 := x1) (me := xm24) hP_24 rfl (Or.inl rfl) ⟨rfl, by decide⟩ rfl rfl (Nat.le_of_ble_eq_true rfl) (by decide) hP_25 (Nat.le_of_ble_eq_true rfl) (fun _ => rfl) (k_f_Zone_copyFrom O f (d + 2) x1 x2 M2) (fun _ M3 => ?_)
      refine xZ.adv (me := xm24) hP_24 2 (pc' := 2) (lv' := [(2, .int ((yw v2) + (1 : Int32))), (0, .ref v0), (1, .ref v1)]) (st' := []) rfl ?_
      refine xZ.eqs (lv2 := [(2, .int (yw (v2 + 1))), (0, .ref v0), (1, .ref v1)]) (st2 := []) (by simp only [yl_lit, yL_lit, yw_add, yw_sub, yw_mul, yw_neg, yl_add, yl_sub, yl_mul, cj_and, cj_or, cj_xor, cj_shl, cj_shr, cj_ushr, cj_div, cj_i2c, cj_i2b, cj_dc, ck_and, ck_or, ck_xor, ck_shl, ck_shr, ck_ushr, ck_i2l, ck_l2i, ck_cmp]) rfl ?_
      exact xZ.sub (xsc (.tail _ (.head _)) (xsc (.tail _ (.tail _ (.head _))) (xsc (.head _) xsn))) (show ([2, 0, 1] : List Nat).Nodup from by decide) (ih v0 v1 (v2 + 1) M3)
def f_Hall_copyFrom (O : Nat → Option va_E) (f : Nat) (v0 : Nat) (v1 : Nat) (M : xM) : Option (Unit × xM) :=
  f_Hall_copyFrom_2 O f f v0 v1 0 M
set_option maxRecDepth 20000 in
theorem k_f_Hall_copyFrom (O : Nat → Option va_E) (f d : Nat) (v0 : Nat) (v1 : Nat) (M : xM) : xZ oU O (d + 3) 24 0 [(0, .ref v0), (1, .ref v1)] [] M (f_Hall_copyFrom O f v0 v1 M) := by
  unfold f_Hall_copyFrom
  refine xZ.adv (me := xm24) hP_24 2 (pc' := 2) (lv' := [(2, .int (0 : Int32)), (0, .ref v0), (1, .ref v1)]) (st' := []) rfl ?_
  refine xZ.eqs (lv2 := [(2, .int (yw 0)), (0, .ref v0), (1, .ref v1)]) (st2 := []) (by simp only [yl_lit, yL_lit, yw_add, yw_sub, yw_mul, yw_neg, yl_add, yl_sub, yl_mul, cj_and, cj_or, cj_xor, cj_shl, cj_shr, cj_ushr, cj_div, cj_i2c, cj_i2b, cj_dc, ck_and, ck_or, ck_xor, ck_shl, ck_shr, ck_ushr, ck_i2l, ck_l2i, ck_cmp]) rfl ?_
  exact xZ.sub (xsc (.tail _ (.head _)) (xsc (.tail _ (.tail _ (.head _))) (xsc (.head _) xsn))) (show ([2, 0, 1] : List Nat).Nodup from by decide) (k_f_Hall_copyFrom_2 O f d f v0 v1 0 M)
def f_Calendarhall_saveForUndo_67 (O : Nat → Option va_E) (f : Nat) (v0 : Nat) (s0 : Nat) (s1 : Int) (M : xM) : Option (Unit × xM) :=
  (pJ M s0 12 2 s1).bind fun M1 =>
  (gJ O M1 v0 12 3).bind fun x1 =>
  if yw 8 ≤ yw x1 then (
    some ((), M1)
  ) else
  (gJ O M1 v0 12 3).bind fun x2 =>
  (pJ M1 v0 12 3 (x2 + 1)).bind fun M2 =>
  some ((), M2)
set_option maxRecDepth 20000 in
theorem k_f_Calendarhall_saveForUndo_67 (O : Nat → Option va_E) (f d : Nat) (v0 : Nat) (s0 : Nat) (s1 : Int) (M : xM) : xZ oU O (d + 4) 23 67 [(0, .ref v0)] [.int (yw s1), .ref s0] M (f_Calendarhall_saveForUndo_67 O f v0 s0 s1 M) := by
  unfold f_Calendarhall_saveForUndo_67
  refine xZ.k_pJ (me := xm23) hP_23 rfl (fun M1 => ?_)
  refine xZ.adv (me := xm23) hP_23 1 (pc' := 71) (lv' := [(0, .ref v0)]) (st' := [.ref v0]) rfl ?_
  refine xZ.k_gJ (me := xm23) hP_23 rfl (fun x1 => ?_)
  refine xZ.adv (me := xm23) hP_23 1 (pc' := 76) (lv' := [(0, .ref v0)]) (st' := [.int (8 : Int32), .int (yw x1)]) rfl ?_
  refine xZ.eqs (lv2 := [(0, .ref v0)]) (st2 := [.int (yw 8), .int (yw x1)]) rfl (by simp only [yl_lit, yL_lit, yw_add, yw_sub, yw_mul, yw_neg, yl_add, yl_sub, yl_mul, cj_and, cj_or, cj_xor, cj_shl, cj_shr, cj_ushr, cj_div, cj_i2c, cj_i2b, cj_dc, ck_and, ck_or, ck_xor, ck_shl, ck_shr, ck_ushr, ck_i2l, ck_l2i, ck_cmp]) ?_
  refine xZ.jc_ge (me := xm23) hP_23 rfl (fun h1 => ?_) (fun h1 => ?_)
  · skip
    exact xZ.retu (me := xm23) hP_23 rfl rfl
  · skip
    refine xZ.adv (me := xm23) hP_23 2 (pc' := 81) (lv' := [(0, .ref v0)]) (st' := [.ref v0, .ref v0]) rfl ?_
    refine xZ.k_gJ (me := xm23) hP_23 rfl (fun x2 => ?_)
    refine xZ.adv (me := xm23) hP_23 2 (pc' := 86) (lv' := [(0, .ref v0)]) (st' := [.int ((yw x2) + (1 : Int32)), .ref v0]) rfl ?_
    refine xZ.eqs (lv2 := [(0, .ref v0)]) (st2 := [.int (yw (x2 + 1)), .ref v0]) rfl (by simp only [yl_lit, yL_lit, yw_add, yw_sub, yw_mul, yw_neg, yl_add, yl_sub, yl_mul, cj_and, cj_or, cj_xor, cj_shl, cj_shr, cj_ushr, cj_div, cj_i2c, cj_i2b, cj_dc, ck_and, ck_or, ck_xor, ck_shl, ck_shr, ck_ushr, ck_i2l, ck_l2i, ck_cmp]) ?_
    refine xZ.k_pJ (me := xm23) hP_23 rfl (fun M2 => ?_)
    exact xZ.retu (me := xm23) hP_23 rfl rfl
def f_Calendarhall_saveForUndo_45 (O : Nat → Option va_E) (f : Nat) (v0 : Nat) (M : xM) : Option (Unit × xM) :=
  (gJ O M v0 12 2).bind fun x1 =>
  if yw 8 ≤ yw (x1 + 1) then (
    f_Calendarhall_saveForUndo_67 O f v0 v0 0 M
  ) else
  (gJ O M v0 12 2).bind fun x2 =>
  f_Calendarhall_saveForUndo_67 O f v0 v0 (x2 + 1) M
set_option maxRecDepth 20000 in
theorem k_f_Calendarhall_saveForUndo_45 (O : Nat → Option va_E) (f d : Nat) (v0 : Nat) (M : xM) : xZ oU O (d + 4) 23 45 [(0, .ref v0)] [] M (f_Calendarhall_saveForUndo_45 O f v0 M) := by
  unfold f_Calendarhall_saveForUndo_45
  refine xZ.adv (me := xm23) hP_23 2 (pc' := 47) (lv' := [(0, .ref v0)]) (st' := [.ref v0, .ref v0]) rfl ?_
  refine xZ.k_gJ (me := xm23) hP_23 rfl (fun x1 => ?_)
  refine xZ.adv (me := xm23) hP_23 3 (pc' := 54) (lv' := [(0, .ref v0)]) (st' := [.int (8 : Int32), .int ((yw x1) + (1 : Int32)), .ref v0]) rfl ?_
  refine xZ.eqs (lv2 := [(0, .ref v0)]) (st2 := [.int (yw 8), .int (yw (x1 + 1)), .ref v0]) rfl (by simp only [yl_lit, yL_lit, yw_add, yw_sub, yw_mul, yw_neg, yl_add, yl_sub, yl_mul, cj_and, cj_or, cj_xor, cj_shl, cj_shr, cj_ushr, cj_div, cj_i2c, cj_i2b, cj_dc, ck_and, ck_or, ck_xor, ck_shl, ck_shr, ck_ushr, ck_i2l, ck_l2i, ck_cmp]) ?_
  refine xZ.jc_ge (me := xm23) hP_23 rfl (fun h1 => ?_) (fun h1 => ?_)
  · skip
    refine xZ.adv (me := xm23) hP_23 1 (pc' := 67) (lv' := [(0, .ref v0)]) (st' := [.int (0 : Int32), .ref v0]) rfl ?_
    refine xZ.eqs (lv2 := [(0, .ref v0)]) (st2 := [.int (yw 0), .ref v0]) rfl (by simp only [yl_lit, yL_lit, yw_add, yw_sub, yw_mul, yw_neg, yl_add, yl_sub, yl_mul, cj_and, cj_or, cj_xor, cj_shl, cj_shr, cj_ushr, cj_div, cj_i2c, cj_i2b, cj_dc, ck_and, ck_or, ck_xor, ck_shl, ck_shr, ck_ushr, ck_i2l, ck_l2i, ck_cmp]) ?_
    exact (k_f_Calendarhall_saveForUndo_67 O f d v0 v0 0 M)
  · skip
    refine xZ.adv (me := xm23) hP_23 1 (pc' := 58) (lv' := [(0, .ref v0)]) (st' := [.ref v0, .ref v0]) rfl ?_
    refine xZ.k_gJ (me := xm23) hP_23 rfl (fun x2 => ?_)
    refine xZ.adv (me := xm23) hP_23 3 (pc' := 67) (lv' := [(0, .ref v0)]) (st' := [.int ((yw x2) + (1 : Int32)), .ref v0]) rfl ?_
    refine xZ.eqs (lv2 := [(0, .ref v0)]) (st2 := [.int (yw (x2 + 1)), .ref v0]) rfl (by simp only [yl_lit, yL_lit, yw_add, yw_sub, yw_mul, yw_neg, yl_add, yl_sub, yl_mul, cj_and, cj_or, cj_xor, cj_shl, cj_shr, cj_ushr, cj_div, cj_i2c, cj_i2b, cj_dc, ck_and, ck_or, ck_xor, ck_shl, ck_shr, ck_ushr, ck_i2l, ck_l2i, ck_cmp]) ?_
    exact (k_f_Calendarhall_saveForUndo_67 O f d v0 v0 (x2 + 1) M)
def f_Calendarhall_saveForUndo_32 (O : Nat → Option va_E) (f : Nat) (v0 : Nat) (s0 : Option Nat) (M : xM) : Option (Unit × xM) :=
  Option.elim s0 (
    f_Calendarhall_saveForUndo_45 O f v0 M
  ) fun x1 =>
    (gR O M v0 12 0).bind fun x2 =>
    (isO O M x1 4).bind fun _ =>
    xcl (f_Hall_copyFrom O f x1 x2 M) fun _ M1 =>
    f_Calendarhall_saveForUndo_45 O f v0 M1
set_option maxRecDepth 20000 in
theorem k_f_Calendarhall_saveForUndo_32 (O : Nat → Option va_E) (f d : Nat) (v0 : Nat) (s0 : Option Nat) (M : xM) : xZ oU O (d + 4) 23 32 [(0, .ref v0)] [va_rf s0] M (f_Calendarhall_saveForUndo_32 O f v0 s0 M) := by
  unfold f_Calendarhall_saveForUndo_32
  refine xZ.oc (x := s0) (lvf := fun _ => [(0, .ref v0)]) (stf := fun xo => [va_rf xo]) ?_ (fun x1 => ?_)
  · skip
    refine xZ.adv (me := xm23) hP_23 2 (pc' := 34) (lv' := [(1, .null), (0, .ref v0)]) (st' := [.null]) rfl ?_
    refine xZ.one (pc' := 45) (lv' := [(1, .null), (0, .ref v0)]) (st' := []) (me := xm23) hP_23 rfl rfl ?_
    exact xZ.sub (xsc (.tail _ (.head _)) xsn) (show ([1, 0] : List Nat).Nodup from by decide) (k_f_Calendarhall_saveForUndo_45 O f d v0 M)
  · skip
    refine xZ.adv (me := xm23) hP_23 2 (pc' := 34) (lv' := [(1, .ref x1), (0, .ref v0)]) (st' := [.ref x1]) rfl ?_
    refine xZ.one (pc' := 37) (lv' := [(1, .ref x1), (0, .ref v0)]) (st' := []) (me := xm23) hP_23 rfl rfl ?_
    refine xZ.adv (me := xm23) hP_23 2 (pc' := 39) (lv' := [(1, .ref x1), (0, .ref v0)]) (st' := [.ref v0, .ref x1]) rfl ?_
    refine xZ.k_gR (me := xm23) hP_23 rfl (fun x2 => ?_)
    refine xZ.callv (κ := oU) (av := [.ref x2]) (rest := []) (st' := fun _ => []) (k0 := x1) (me := xm23) hP_23 rfl (Or.inl rfl) ⟨rfl, by decide⟩ rfl rfl (Nat.le_of_ble_eq_true rfl) (by decide) hP_24 (Nat.le_of_ble_eq_true rfl) (fun _ => rfl) (k_f_Hall_copyFrom O f (d + 0) x1 x2 M) (fun _ M1 => ?_)
    exact xZ.sub (xsc (.tail _ (.head _)) xsn) (show ([1, 0] : List Nat).Nodup from by decide) (k_f_Calendarhall_saveForUndo_45 O f d v0 M1)
def f_Calendarhall_saveForUndo_31 (O : Nat → Option va_E) (f : Nat) (v0 : Nat) (M : xM) : Option (Unit × xM) :=
  f_Calendarhall_saveForUndo_32 O f v0 none M
set_option maxRecDepth 20000 in
theorem k_f_Calendarhall_saveForUndo_31 (O : Nat → Option va_E) (f d : Nat) (v0 : Nat) (M : xM) : xZ oU O (d + 4) 23 31 [(0, .ref v0)] [] M (f_Calendarhall_saveForUndo_31 O f v0 M) := by
  unfold f_Calendarhall_saveForUndo_31
  refine xZ.adv (me := xm23) hP_23 1 (pc' := 32) (lv' := [(0, .ref v0)]) (st' := [.null]) rfl ?_
  exact (k_f_Calendarhall_saveForUndo_32 O f d v0 none M)
def f_Calendarhall_saveForUndo (O : Nat → Option va_E) (f : Nat) (v0 : Nat) (M : xM) : Option (Unit × xM) :=
  (gJ O M v0 12 2).bind fun x1 =>
  if yw x1 < yw 0 then (
    f_Calendarhall_saveForUndo_31 O f v0 M
  ) else
  (gJ O M v0 12 2).bind fun x2 =>
  (gR O M v0 12 1).bind fun x3 =>
  (aJN O M x3).bind fun x4 =>
  if yw x4 ≤ yw x2 then (
    f_Calendarhall_saveForUndo_31 O f v0 M
  ) else
  (gR O M v0 12 1).bind fun x5 =>
  (gJ O M v0 12 2).bind fun x6 =>
  (aJR O M x5 x6).bind fun x7 =>
  f_Calendarhall_saveForUndo_32 O f v0 (some x7) M
set_option maxRecDepth 20000 in
theorem k_f_Calendarhall_saveForUndo (O : Nat → Option va_E) (f d : Nat) (v0 : Nat) (M : xM) : xZ oU O (d + 4) 23 0 [(0, .ref v0)] [] M (f_Calendarhall_saveForUndo O f v0 M) := by
  unfold f_Calendarhall_saveForUndo
  refine xZ.adv (me := xm23) hP_23 1 (pc' := 1) (lv' := [(0, .ref v0)]) (st' := [.ref v0]) rfl ?_
  refine xZ.k_gJ (me := xm23) hP_23 rfl (fun x1 => ?_)
  refine xZ.jf_lt (me := xm23) hP_23 rfl (fun h1 => ?_) (fun h1 => ?_)
  · skip
    exact (k_f_Calendarhall_saveForUndo_31 O f d v0 M)
  · skip
    refine xZ.adv (me := xm23) hP_23 1 (pc' := 8) (lv' := [(0, .ref v0)]) (st' := [.ref v0]) rfl ?_
    refine xZ.k_gJ (me := xm23) hP_23 rfl (fun x2 => ?_)
    refine xZ.adv (me := xm23) hP_23 1 (pc' := 12) (lv' := [(0, .ref v0)]) (st' := [.ref v0, .int (yw x2)]) rfl ?_
    refine xZ.k_gR (me := xm23) hP_23 rfl (fun x3 => ?_)
    refine xZ.k_aJN (me := xm23) hP_23 rfl (fun x4 => ?_)
    refine xZ.jc_ge (me := xm23) hP_23 rfl (fun h2 => ?_) (fun h2 => ?_)
    · skip
      exact (k_f_Calendarhall_saveForUndo_31 O f d v0 M)
    · skip
      refine xZ.adv (me := xm23) hP_23 1 (pc' := 20) (lv' := [(0, .ref v0)]) (st' := [.ref v0]) rfl ?_
      refine xZ.k_gR (me := xm23) hP_23 rfl (fun x5 => ?_)
      refine xZ.adv (me := xm23) hP_23 1 (pc' := 24) (lv' := [(0, .ref v0)]) (st' := [.ref v0, .ref x5]) rfl ?_
      refine xZ.k_gJ (me := xm23) hP_23 rfl (fun x6 => ?_)
      refine xZ.k_aJR (me := xm23) hP_23 rfl (fun x7 => ?_)
      refine xZ.adv (me := xm23) hP_23 1 (pc' := 32) (lv' := [(0, .ref v0)]) (st' := [.ref x7]) rfl ?_
      exact (k_f_Calendarhall_saveForUndo_32 O f d v0 (some x7) M)
def f_Calendarhall_setZone (O : Nat → Option va_E) (f : Nat) (v0 : Nat) (v1 : Int) (v2 : Int) (v3 : Int) (M : xM) : Option (Int × xM) :=
  (isO O M v0 12).bind fun _ =>
  xcl (f_Calendarhall_zoneNumbered O f v0 v1 M) fun x1 M1 =>
  xcl (f_Calendarhall_needRange O f v2 (-720) 840 M1) fun _ M2 =>
  xcl (f_Calendarhall_needRange O f v3 0 120 M2) fun _ M3 =>
  if yw (v2 - (jdiv v2 15) * 15) = yw 0 then (
    if yw (v3 - (jdiv v3 15) * 15) = yw 0 then (
      (gJ O M3 x1 11 0).bind fun x4 =>
      (isO O M3 v0 12).bind fun _ =>
      xcl (f_Calendarhall_saveForUndo O f v0 M3) fun _ M4 =>
      (pJ M4 x1 11 0 v2).bind fun M5 =>
      (pJ M5 x1 11 1 v3).bind fun M6 =>
      some (x4, M6)
    ) else
    none
  ) else
  none
set_option maxRecDepth 20000 in
theorem k_f_Calendarhall_setZone (O : Nat → Option va_E) (f d : Nat) (v0 : Nat) (v1 : Int) (v2 : Int) (v3 : Int) (M : xM) : xZ oJ O (d + 5) 19 0 [(0, .ref v0), (1, .int (yw v1)), (2, .int (yw v2)), (3, .int (yw v3))] [] M (f_Calendarhall_setZone O f v0 v1 v2 v3 M) := by
  unfold f_Calendarhall_setZone
  refine xZ.adv (me := xm19) hP_19 2 (pc' := 2) (lv' := [(0, .ref v0), (1, .int (yw v1)), (2, .int (yw v2)), (3, .int (yw v3))]) (st' := [.int (yw v1), .ref v0]) rfl ?_
  refine xZ.callv (κ := oR) (av := [.int (yw v1)]) (rest := []) (st' := fun x1 => [.ref x1]) (k0 := v0) (me := xm19) hP_19 rfl (Or.inl rfl) ⟨rfl, by decide⟩ rfl rfl (Nat.le_of_ble_eq_true rfl) (by decide) hP_20 (Nat.le_of_ble_eq_true rfl) (fun _ => rfl) (k_f_Calendarhall_zoneNumbered O f (d + 3) v0 v1 M) (fun x1 M1 => ?_)
  refine xZ.adv (me := xm19) hP_19 4 (pc' := 14) (lv' := [(4, .ref x1), (0, .ref v0), (1, .int (yw v1)), (2, .int (yw v2)), (3, .int (yw v3))]) (st' := [.int (840 : Int32), .int (-720 : Int32), .int (yw v2)]) rfl ?_
  refine xZ.eqs (lv2 := [(4, .ref x1), (0, .ref v0), (1, .int (yw v1)), (2, .int (yw v2)), (3, .int (yw v3))]) (st2 := [.int (yw 840), .int (yw (-720)), .int (yw v2)]) rfl (by simp only [yl_lit, yL_lit, yw_add, yw_sub, yw_mul, yw_neg, yl_add, yl_sub, yl_mul, cj_and, cj_or, cj_xor, cj_shl, cj_shr, cj_ushr, cj_div, cj_i2c, cj_i2b, cj_dc, ck_and, ck_or, ck_xor, ck_shl, ck_shr, ck_ushr, ck_i2l, ck_l2i, ck_cmp]) ?_
  refine xZ.calls (κ := oU) (av := [.int (yw v2), .int (yw (-720)), .int (yw 840)]) (rest := []) (st' := fun _ => []) (me := xm19) hP_19 rfl rfl rfl (Nat.le_of_ble_eq_true rfl) (by decide) hP_22 (Nat.le_of_ble_eq_true rfl) (fun _ => rfl) (k_f_Calendarhall_needRange O f (d + 4) v2 (-720) 840 M1) (fun _ M2 => ?_)
  refine xZ.adv (me := xm19) hP_19 3 (pc' := 21) (lv' := [(4, .ref x1), (0, .ref v0), (1, .int (yw v1)), (2, .int (yw v2)), (3, .int (yw v3))]) (st' := [.int (120 : Int32), .int (0 : Int32), .int (yw v3)]) rfl ?_
  refine xZ.eqs (lv2 := [(4, .ref x1), (0, .ref v0), (1, .int (yw v1)), (2, .int (yw v2)), (3, .int (yw v3))]) (st2 := [.int (yw 120), .int (yw 0), .int (yw v3)]) rfl (by simp only [yl_lit, yL_lit, yw_add, yw_sub, yw_mul, yw_neg, yl_add, yl_sub, yl_mul, cj_and, cj_or, cj_xor, cj_shl, cj_shr, cj_ushr, cj_div, cj_i2c, cj_i2b, cj_dc, ck_and, ck_or, ck_xor, ck_shl, ck_shr, ck_ushr, ck_i2l, ck_l2i, ck_cmp]) ?_
  refine xZ.calls (κ := oU) (av := [.int (yw v3), .int (yw 0), .int (yw 120)]) (rest := []) (st' := fun _ => []) (me := xm19) hP_19 rfl rfl rfl (Nat.le_of_ble_eq_true rfl) (by decide) hP_22 (Nat.le_of_ble_eq_true rfl) (fun _ => rfl) (k_f_Calendarhall_needRange O f (d + 4) v3 0 120 M2) (fun _ M3 => ?_)
  refine xZ.adv (me := xm19) hP_19 3 (pc' := 28) (lv' := [(4, .ref x1), (0, .ref v0), (1, .int (yw v1)), (2, .int (yw v2)), (3, .int (yw v3))]) (st' := [.int ((yw v2) - (yw v2) / (15 : Int32) * (15 : Int32))]) rfl ?_
  refine xZ.eqs (lv2 := [(4, .ref x1), (0, .ref v0), (1, .int (yw v1)), (2, .int (yw v2)), (3, .int (yw v3))]) (st2 := [.int (yw (v2 - (jdiv v2 15) * 15))]) rfl (by simp only [yl_lit, yL_lit, yw_add, yw_sub, yw_mul, yw_neg, yl_add, yl_sub, yl_mul, cj_and, cj_or, cj_xor, cj_shl, cj_shr, cj_ushr, cj_div, cj_i2c, cj_i2b, cj_dc, ck_and, ck_or, ck_xor, ck_shl, ck_shr, ck_ushr, ck_i2l, ck_l2i, ck_cmp]) ?_
  refine xZ.jf_ne (me := xm19) hP_19 rfl (fun h1 => ?_) (fun h1 => ?_)
  · skip
    refine xZ.adv (me := xm19) hP_19 3 (pc' := 35) (lv' := [(4, .ref x1), (0, .ref v0), (1, .int (yw v1)), (2, .int (yw v2)), (3, .int (yw v3))]) (st' := [.int ((yw v3) - (yw v3) / (15 : Int32) * (15 : Int32))]) rfl ?_
    refine xZ.eqs (lv2 := [(4, .ref x1), (0, .ref v0), (1, .int (yw v1)), (2, .int (yw v2)), (3, .int (yw v3))]) (st2 := [.int (yw (v3 - (jdiv v3 15) * 15))]) rfl (by simp only [yl_lit, yL_lit, yw_add, yw_sub, yw_mul, yw_neg, yl_add, yl_sub, yl_mul, cj_and, cj_or, cj_xor, cj_shl, cj_shr, cj_ushr, cj_div, cj_i2c, cj_i2b, cj_dc, ck_and, ck_or, ck_xor, ck_shl, ck_shr, ck_ushr, ck_i2l, ck_l2i, ck_cmp]) ?_
    refine xZ.jf_eq (me := xm19) hP_19 rfl (fun h2 => ?_) (fun h2 => ?_)
    · skip
      refine xZ.adv (me := xm19) hP_19 1 (pc' := 48) (lv' := [(4, .ref x1), (0, .ref v0), (1, .int (yw v1)), (2, .int (yw v2)), (3, .int (yw v3))]) (st' := [.ref x1]) rfl ?_
      refine xZ.k_gJ (me := xm19) hP_19 rfl (fun x4 => ?_)
      refine xZ.adv (me := xm19) hP_19 2 (pc' := 54) (lv' := [(5, .int (yw x4)), (4, .ref x1), (0, .ref v0), (1, .int (yw v1)), (2, .int (yw v2)), (3, .int (yw v3))]) (st' := [.ref v0]) rfl ?_
      refine xZ.callv (κ := oU) (av := []) (rest := []) (st' := fun _ => []) (k0 := v0) (me := xm19) hP_19 rfl (Or.inl rfl) ⟨rfl, by decide⟩ rfl rfl (Nat.le_of_ble_eq_true rfl) (by decide) hP_23 (Nat.le_of_ble_eq_true rfl) (fun _ => rfl) (k_f_Calendarhall_saveForUndo O f (d + 0) v0 M3) (fun _ M4 => ?_)
      refine xZ.adv (me := xm19) hP_19 2 (pc' := 60) (lv' := [(5, .int (yw x4)), (4, .ref x1), (0, .ref v0), (1, .int (yw v1)), (2, .int (yw v2)), (3, .int (yw v3))]) (st' := [.int (yw v2), .ref x1]) rfl ?_
      refine xZ.k_pJ (me := xm19) hP_19 rfl (fun M5 => ?_)
      refine xZ.adv (me := xm19) hP_19 2 (pc' := 66) (lv' := [(5, .int (yw x4)), (4, .ref x1), (0, .ref v0), (1, .int (yw v1)), (2, .int (yw v2)), (3, .int (yw v3))]) (st' := [.int (yw v3), .ref x1]) rfl ?_
      refine xZ.k_pJ (me := xm19) hP_19 rfl (fun M6 => ?_)
      refine xZ.adv (me := xm19) hP_19 1 (pc' := 71) (lv' := [(5, .int (yw x4)), (4, .ref x1), (0, .ref v0), (1, .int (yw v1)), (2, .int (yw v2)), (3, .int (yw v3))]) (st' := [.int (yw x4)]) rfl ?_
      exact xZ.jreti (me := xm19) hP_19 rfl rfl
    · skip
      exact xZ.no
  · skip
    exact xZ.no
def f_Calendarhall_needDay (O : Nat → Option va_E) (f : Nat) (v0 : Int) (M : xM) : Option (Unit × xM) :=
  if yw v0 < yw 10 then (
    none
  ) else
  if yw v0 ≤ yw 146000 then (
    some ((), M)
  ) else
  none
set_option maxRecDepth 20000 in
theorem k_f_Calendarhall_needDay (O : Nat → Option va_E) (f d : Nat) (v0 : Int) (M : xM) : xZ oU O (d + 0) 37 0 [(0, .int (yw v0))] [] M (f_Calendarhall_needDay O f v0 M) := by
  unfold f_Calendarhall_needDay
  refine xZ.adv (me := xm37) hP_37 2 (pc' := 3) (lv' := [(0, .int (yw v0))]) (st' := [.int (10 : Int32), .int (yw v0)]) rfl ?_
  refine xZ.eqs (lv2 := [(0, .int (yw v0))]) (st2 := [.int (yw 10), .int (yw v0)]) rfl (by simp only [yl_lit, yL_lit, yw_add, yw_sub, yw_mul, yw_neg, yl_add, yl_sub, yl_mul, cj_and, cj_or, cj_xor, cj_shl, cj_shr, cj_ushr, cj_div, cj_i2c, cj_i2b, cj_dc, ck_and, ck_or, ck_xor, ck_shl, ck_shr, ck_ushr, ck_i2l, ck_l2i, ck_cmp]) ?_
  refine xZ.jc_lt (me := xm37) hP_37 rfl (fun h1 => ?_) (fun h1 => ?_)
  · skip
    exact xZ.no
  · skip
    refine xZ.adv (me := xm37) hP_37 2 (pc' := 9) (lv' := [(0, .int (yw v0))]) (st' := [.int (146000 : Int32), .int (yw v0)]) rfl ?_
    refine xZ.eqs (lv2 := [(0, .int (yw v0))]) (st2 := [.int (yw 146000), .int (yw v0)]) rfl (by simp only [yl_lit, yL_lit, yw_add, yw_sub, yw_mul, yw_neg, yl_add, yl_sub, yl_mul, cj_and, cj_or, cj_xor, cj_shl, cj_shr, cj_ushr, cj_div, cj_i2c, cj_i2b, cj_dc, ck_and, ck_or, ck_xor, ck_shl, ck_shr, ck_ushr, ck_i2l, ck_l2i, ck_cmp]) ?_
    refine xZ.jc_le (me := xm37) hP_37 rfl (fun h2 => ?_) (fun h2 => ?_)
    · skip
      exact xZ.retu (me := xm37) hP_37 rfl rfl
    · skip
      exact xZ.no
def f_Hall_freeSeries_2 (O : Nat → Option va_E) (f : Nat) : Nat → Nat → Int → xM → Option (Int × xM)
  | 0, _, _, _ => none
  | n + 1, v0, v1, M =>
    (gR O M v0 4 3).bind fun x1 =>
    (aJN O M x1).bind fun x2 =>
    if yw x2 ≤ yw v1 then (
      some ((-1), M)
    ) else
    (gR O M v0 4 3).bind fun x3 =>
    (aJR O M x3 v1).bind fun x4 =>
    (gJ O M x4 10 0).bind fun x5 =>
    if yw x5 = yw 0 then (
      some (v1, M)
    ) else
    f_Hall_freeSeries_2 O f n v0 (v1 + 1) M
set_option maxRecDepth 20000 in
theorem k_f_Hall_freeSeries_2 (O : Nat → Option va_E) (f d : Nat) : ∀ (n : Nat) (v0 : Nat) (v1 : Int) (M : xM), xZ oJ O (d + 0) 38 2 [(0, .ref v0), (1, .int (yw v1))] [] M (f_Hall_freeSeries_2 O f n v0 v1 M) := by
  intro n
  induction n with
  | zero =>
    intro v0 v1 M
    exact xZ.no
  | succ n ih =>
    intro v0 v1 M
    unfold f_Hall_freeSeries_2
    refine xZ.adv (me := xm38) hP_38 2 (pc' := 4) (lv' := [(0, .ref v0), (1, .int (yw v1))]) (st' := [.ref v0, .int (yw v1)]) rfl ?_
    refine xZ.k_gR (me := xm38) hP_38 rfl (fun x1 => ?_)
    refine xZ.k_aJN (me := xm38) hP_38 rfl (fun x2 => ?_)
    refine xZ.jc_ge (me := xm38) hP_38 rfl (fun h1 => ?_) (fun h1 => ?_)
    · skip
      refine xZ.adv (me := xm38) hP_38 1 (pc' := 32) (lv' := [(0, .ref v0), (1, .int (yw v1))]) (st' := [.int (-1 : Int32)]) rfl ?_
      refine xZ.eqs (lv2 := [(0, .ref v0), (1, .int (yw v1))]) (st2 := [.int (yw (-1))]) rfl (by simp only [yl_lit, yL_lit, yw_add, yw_sub, yw_mul, yw_neg, yl_add, yl_sub, yl_mul, cj_and, cj_or, cj_xor, cj_shl, cj_shr, cj_ushr, cj_div, cj_i2c, cj_i2b, cj_dc, ck_and, ck_or, ck_xor, ck_shl, ck_shr, ck_ushr, ck_i2l, ck_l2i, ck_cmp]) ?_
      exact xZ.jreti (me := xm38) hP_38 rfl rfl
    · skip
      refine xZ.adv (me := xm38) hP_38 1 (pc' := 12) (lv' := [(0, .ref v0), (1, .int (yw v1))]) (st' := [.ref v0]) rfl ?_
      refine xZ.k_gR (me := xm38) hP_38 rfl (fun x3 => ?_)
      refine xZ.adv (me := xm38) hP_38 1 (pc' := 16) (lv' := [(0, .ref v0), (1, .int (yw v1))]) (st' := [.int (yw v1), .ref x3]) rfl ?_
      refine xZ.k_aJR (me := xm38) hP_38 rfl (fun x4 => ?_)
      refine xZ.k_gJ (me := xm38) hP_38 rfl (fun x5 => ?_)
      refine xZ.jf_ne (me := xm38) hP_38 rfl (fun h2 => ?_) (fun h2 => ?_)
      · skip
        refine xZ.adv (me := xm38) hP_38 1 (pc' := 24) (lv' := [(0, .ref v0), (1, .int (yw v1))]) (st' := [.int (yw v1)]) rfl ?_
        exact xZ.jreti (me := xm38) hP_38 rfl rfl
      · skip
        refine xZ.adv (me := xm38) hP_38 2 (pc' := 2) (lv' := [(1, .int ((yw v1) + (1 : Int32))), (0, .ref v0)]) (st' := []) rfl ?_
        refine xZ.eqs (lv2 := [(1, .int (yw (v1 + 1))), (0, .ref v0)]) (st2 := []) (by simp only [yl_lit, yL_lit, yw_add, yw_sub, yw_mul, yw_neg, yl_add, yl_sub, yl_mul, cj_and, cj_or, cj_xor, cj_shl, cj_shr, cj_ushr, cj_div, cj_i2c, cj_i2b, cj_dc, ck_and, ck_or, ck_xor, ck_shl, ck_shr, ck_ushr, ck_i2l, ck_l2i, ck_cmp]) rfl ?_
        exact xZ.sub (xsc (.tail _ (.head _)) (xsc (.head _) xsn)) (show ([1, 0] : List Nat).Nodup from by decide) (ih v0 (v1 + 1) M)
def f_Hall_freeSeries (O : Nat → Option va_E) (f : Nat) (v0 : Nat) (M : xM) : Option (Int × xM) :=
  f_Hall_freeSeries_2 O f f v0 0 M
set_option maxRecDepth 20000 in
theorem k_f_Hall_freeSeries (O : Nat → Option va_E) (f d : Nat) (v0 : Nat) (M : xM) : xZ oJ O (d + 0) 38 0 [(0, .ref v0)] [] M (f_Hall_freeSeries O f v0 M) := by
  unfold f_Hall_freeSeries
  refine xZ.adv (me := xm38) hP_38 2 (pc' := 2) (lv' := [(1, .int (0 : Int32)), (0, .ref v0)]) (st' := []) rfl ?_
  refine xZ.eqs (lv2 := [(1, .int (yw 0)), (0, .ref v0)]) (st2 := []) (by simp only [yl_lit, yL_lit, yw_add, yw_sub, yw_mul, yw_neg, yl_add, yl_sub, yl_mul, cj_and, cj_or, cj_xor, cj_shl, cj_shr, cj_ushr, cj_div, cj_i2c, cj_i2b, cj_dc, ck_and, ck_or, ck_xor, ck_shl, ck_shr, ck_ushr, ck_i2l, ck_l2i, ck_cmp]) rfl ?_
  exact xZ.sub (xsc (.tail _ (.head _)) (xsc (.head _) xsn)) (show ([1, 0] : List Nat).Nodup from by decide) (k_f_Hall_freeSeries_2 O f d f v0 0 M)
def f_Series_putAnswer (O : Nat → Option va_E) (f : Nat) (v0 : Nat) (v1 : Int) (v2 : Int) (M : xM) : Option (Unit × xM) :=
  if yw v1 < yw 0 then (
    some ((), M)
  ) else
  (gR O M v0 10 10).bind fun x1 =>
  (aJN O M x1).bind fun x2 =>
  if yw x2 ≤ yw v1 then (
    some ((), M)
  ) else
  (gR O M v0 10 10).bind fun x3 =>
  (wJ M x3 v1 v2).bind fun M1 =>
  some ((), M1)
set_option maxRecDepth 20000 in
theorem k_f_Series_putAnswer (O : Nat → Option va_E) (f d : Nat) (v0 : Nat) (v1 : Int) (v2 : Int) (M : xM) : xZ oU O (d + 0) 41 0 [(0, .ref v0), (1, .int (yw v1)), (2, .int (yw v2))] [] M (f_Series_putAnswer O f v0 v1 v2 M) := by
  unfold f_Series_putAnswer
  refine xZ.adv (me := xm41) hP_41 1 (pc' := 1) (lv' := [(0, .ref v0), (1, .int (yw v1)), (2, .int (yw v2))]) (st' := [.int (yw v1)]) rfl ?_
  refine xZ.jf_lt (me := xm41) hP_41 rfl (fun h1 => ?_) (fun h1 => ?_)
  · skip
    exact xZ.retu (me := xm41) hP_41 rfl rfl
  · skip
    refine xZ.adv (me := xm41) hP_41 2 (pc' := 6) (lv' := [(0, .ref v0), (1, .int (yw v1)), (2, .int (yw v2))]) (st' := [.ref v0, .int (yw v1)]) rfl ?_
    refine xZ.k_gR (me := xm41) hP_41 rfl (fun x1 => ?_)
    refine xZ.k_aJN (me := xm41) hP_41 rfl (fun x2 => ?_)
    refine xZ.jc_ge (me := xm41) hP_41 rfl (fun h2 => ?_) (fun h2 => ?_)
    · skip
      exact xZ.retu (me := xm41) hP_41 rfl rfl
    · skip
      refine xZ.adv (me := xm41) hP_41 1 (pc' := 14) (lv' := [(0, .ref v0), (1, .int (yw v1)), (2, .int (yw v2))]) (st' := [.ref v0]) rfl ?_
      refine xZ.k_gR (me := xm41) hP_41 rfl (fun x3 => ?_)
      refine xZ.adv (me := xm41) hP_41 2 (pc' := 19) (lv' := [(0, .ref v0), (1, .int (yw v1)), (2, .int (yw v2))]) (st' := [.int (yw v2), .int (yw v1), .ref x3]) rfl ?_
      refine xZ.k_wJ (me := xm41) hP_41 rfl (fun M1 => ?_)
      exact xZ.retu (me := xm41) hP_41 rfl rfl
def f_Series_putCounter (O : Nat → Option va_E) (f : Nat) (v0 : Nat) (v1 : Int) (v2 : Int) (M : xM) : Option (Unit × xM) :=
  if yw v1 < yw 0 then (
    some ((), M)
  ) else
  (gR O M v0 10 11).bind fun x1 =>
  (aJN O M x1).bind fun x2 =>
  if yw x2 ≤ yw v1 then (
    some ((), M)
  ) else
  (gR O M v0 10 11).bind fun x3 =>
  (wJ M x3 v1 v2).bind fun M1 =>
  some ((), M1)
set_option maxRecDepth 20000 in
theorem k_f_Series_putCounter (O : Nat → Option va_E) (f d : Nat) (v0 : Nat) (v1 : Int) (v2 : Int) (M : xM) : xZ oU O (d + 0) 42 0 [(0, .ref v0), (1, .int (yw v1)), (2, .int (yw v2))] [] M (f_Series_putCounter O f v0 v1 v2 M) := by
  unfold f_Series_putCounter
  refine xZ.adv (me := xm42) hP_42 1 (pc' := 1) (lv' := [(0, .ref v0), (1, .int (yw v1)), (2, .int (yw v2))]) (st' := [.int (yw v1)]) rfl ?_
  refine xZ.jf_lt (me := xm42) hP_42 rfl (fun h1 => ?_) (fun h1 => ?_)
  · skip
    exact xZ.retu (me := xm42) hP_42 rfl rfl
  · skip
    refine xZ.adv (me := xm42) hP_42 2 (pc' := 6) (lv' := [(0, .ref v0), (1, .int (yw v1)), (2, .int (yw v2))]) (st' := [.ref v0, .int (yw v1)]) rfl ?_
    refine xZ.k_gR (me := xm42) hP_42 rfl (fun x1 => ?_)
    refine xZ.k_aJN (me := xm42) hP_42 rfl (fun x2 => ?_)
    refine xZ.jc_ge (me := xm42) hP_42 rfl (fun h2 => ?_) (fun h2 => ?_)
    · skip
      exact xZ.retu (me := xm42) hP_42 rfl rfl
    · skip
      refine xZ.adv (me := xm42) hP_42 1 (pc' := 14) (lv' := [(0, .ref v0), (1, .int (yw v1)), (2, .int (yw v2))]) (st' := [.ref v0]) rfl ?_
      refine xZ.k_gR (me := xm42) hP_42 rfl (fun x3 => ?_)
      refine xZ.adv (me := xm42) hP_42 2 (pc' := 19) (lv' := [(0, .ref v0), (1, .int (yw v1)), (2, .int (yw v2))]) (st' := [.int (yw v2), .int (yw v1), .ref x3]) rfl ?_
      refine xZ.k_wJ (me := xm42) hP_42 rfl (fun M1 => ?_)
      exact xZ.retu (me := xm42) hP_42 rfl rfl
def f_Series_forgetAnswers_2 (O : Nat → Option va_E) (f : Nat) : Nat → Nat → Int → xM → Option (Unit × xM)
  | 0, _, _, _ => none
  | n + 1, v0, v1, M =>
    if yw 8 ≤ yw v1 then (
      some ((), M)
    ) else
    (isO O M v0 10).bind fun _ =>
    xcl (f_Series_putAnswer O f v0 v1 0 M) fun _ M1 =>
    (isO O M1 v0 10).bind fun _ =>
    xcl (f_Series_putCounter O f v0 v1 (-1) M1) fun _ M2 =>
    f_Series_forgetAnswers_2 O f n v0 (v1 + 1) M2
set_option maxRecDepth 20000 in
theorem k_f_Series_forgetAnswers_2 (O : Nat → Option va_E) (f d : Nat) : ∀ (n : Nat) (v0 : Nat) (v1 : Int) (M : xM), xZ oU O (d + 1) 40 2 [(0, .ref v0), (1, .int (yw v1))] [] M (f_Series_forgetAnswers_2 O f n v0 v1 M) := by
  intro n
  induction n with
  | zero =>
    intro v0 v1 M
    exact xZ.no
  | succ n ih =>
    intro v0 v1 M
    unfold f_Series_forgetAnswers_2
    refine xZ.adv (me := xm40) hP_40 2 (pc' := 5) (lv' := [(0, .ref v0), (1, .int (yw v1))]) (st' := [.int (8 : Int32), .int (yw v1)]) rfl ?_
    refine xZ.eqs (lv2 := [(0, .ref v0), (1, .int (yw v1))]) (st2 := [.int (yw 8), .int (yw v1)]) rfl (by simp only [yl_lit, yL_lit, yw_add, yw_sub, yw_mul, yw_neg, yl_add, yl_sub, yl_mul, cj_and, cj_or, cj_xor, cj_shl, cj_shr, cj_ushr, cj_div, cj_i2c, cj_i2b, cj_dc, ck_and, ck_or, ck_xor, ck_shl, ck_shr, ck_ushr, ck_i2l, ck_l2i, ck_cmp]) ?_
    refine xZ.jc_ge (me := xm40) hP_40 rfl (fun h1 => ?_) (fun h1 => ?_)
    · skip
      exact xZ.retu (me := xm40) hP_40 rfl rfl
    · skip
      refine xZ.adv (me := xm40) hP_40 3 (pc' := 11) (lv' := [(0, .ref v0), (1, .int (yw v1))]) (st' := [.int (0 : Int32), .int (yw v1), .ref v0]) rfl ?_
      refine xZ.eqs (lv2 := [(0, .ref v0), (1, .int (yw v1))]) (st2 := [.int (yw 0), .int (yw v1), .ref v0]) rfl (by simp only [yl_lit, yL_lit, yw_add, yw_sub, yw_mul, yw_neg, yl_add, yl_sub, yl_mul, cj_and, cj_or, cj_xor, cj_shl, cj_shr, cj_ushr, cj_div, cj_i2c, cj_i2b, cj_dc, ck_and, ck_or, ck_xor, ck_shl, ck_shr, ck_ushr, ck_i2l, ck_l2i, ck_cmp]) ?_
      refine xZ.callv (κ := oU) (av := [.int (yw v1), .int (yw 0)]) (rest := []) (st' := fun _ => []) (k0 := v0) (me := xm40) hP_40 rfl (Or.inl rfl) ⟨rfl, by decide⟩ rfl rfl (Nat.le_of_ble_eq_true rfl) (by decide) hP_41 (Nat.le_of_ble_eq_true rfl) (fun _ => rfl) (k_f_Series_putAnswer O f (d + 0) v0 v1 0 M) (fun _ M1 => ?_)
      refine xZ.adv (me := xm40) hP_40 3 (pc' := 17) (lv' := [(0, .ref v0), (1, .int (yw v1))]) (st' := [.int (-1 : Int32), .int (yw v1), .ref v0]) rfl ?_
      refine xZ.eqs (lv2 := [(0, .ref v0), (1, .int (yw v1))]) (st2 := [.int (yw (-1)), .int (yw v1), .ref v0]) rfl (by simp only [yl_lit, yL_lit, yw_add, yw_sub, yw_mul, yw_neg, yl_add, yl_sub, yl_mul, cj_and, cj_or, cj_xor, cj_shl, cj_shr, cj_ushr, cj_div, cj_i2c, cj_i2b, cj_dc, ck_and, ck_or, ck_xor, ck_shl, ck_shr, ck_ushr, ck_i2l, ck_l2i, ck_cmp]) ?_
      refine xZ.callv (κ := oU) (av := [.int (yw v1), .int (yw (-1))]) (rest := []) (st' := fun _ => []) (k0 := v0) (me := xm40) hP_40 rfl (Or.inl rfl) ⟨rfl, by decide⟩ rfl rfl (Nat.le_of_ble_eq_true rfl) (by decide) hP_42 (Nat.le_of_ble_eq_true rfl) (fun _ => rfl) (k_f_Series_putCounter O f (d + 0) v0 v1 (-1) M1) (fun _ M2 => ?_)
      refine xZ.adv (me := xm40) hP_40 2 (pc' := 2) (lv' := [(1, .int ((yw v1) + (1 : Int32))), (0, .ref v0)]) (st' := []) rfl ?_
      refine xZ.eqs (lv2 := [(1, .int (yw (v1 + 1))), (0, .ref v0)]) (st2 := []) (by simp only [yl_lit, yL_lit, yw_add, yw_sub, yw_mul, yw_neg, yl_add, yl_sub, yl_mul, cj_and, cj_or, cj_xor, cj_shl, cj_shr, cj_ushr, cj_div, cj_i2c, cj_i2b, cj_dc, ck_and, ck_or, ck_xor, ck_shl, ck_shr, ck_ushr, ck_i2l, ck_l2i, ck_cmp]) rfl ?_
      exact xZ.sub (xsc (.tail _ (.head _)) (xsc (.head _) xsn)) (show ([1, 0] : List Nat).Nodup from by decide) (ih v0 (v1 + 1) M2)
def f_Series_forgetAnswers (O : Nat → Option va_E) (f : Nat) (v0 : Nat) (M : xM) : Option (Unit × xM) :=
  f_Series_forgetAnswers_2 O f f v0 0 M
set_option maxRecDepth 20000 in
theorem k_f_Series_forgetAnswers (O : Nat → Option va_E) (f d : Nat) (v0 : Nat) (M : xM) : xZ oU O (d + 1) 40 0 [(0, .ref v0)] [] M (f_Series_forgetAnswers O f v0 M) := by
  unfold f_Series_forgetAnswers
  refine xZ.adv (me := xm40) hP_40 2 (pc' := 2) (lv' := [(1, .int (0 : Int32)), (0, .ref v0)]) (st' := []) rfl ?_
  refine xZ.eqs (lv2 := [(1, .int (yw 0)), (0, .ref v0)]) (st2 := []) (by simp only [yl_lit, yL_lit, yw_add, yw_sub, yw_mul, yw_neg, yl_add, yl_sub, yl_mul, cj_and, cj_or, cj_xor, cj_shl, cj_shr, cj_ushr, cj_div, cj_i2c, cj_i2b, cj_dc, ck_and, ck_or, ck_xor, ck_shl, ck_shr, ck_ushr, ck_i2l, ck_l2i, ck_cmp]) rfl ?_
  exact xZ.sub (xsc (.tail _ (.head _)) (xsc (.head _) xsn)) (show ([1, 0] : List Nat).Nodup from by decide) (k_f_Series_forgetAnswers_2 O f d f v0 0 M)
def f_Series_start (O : Nat → Option va_E) (f : Nat) (v0 : Nat) (v1 : Int) (v2 : Int) (M : xM) : Option (Unit × xM) :=
  (pJ M v0 10 0 1).bind fun M1 =>
  (pJ M1 v0 10 1 v1).bind fun M2 =>
  (gR O M2 v0 10 6).bind fun x1 =>
  (isO O M2 x1 9).bind fun _ =>
  xcl (f_Rule_put O f x1 0 0 0 0 M2) fun _ M3 =>
  (gR O M3 v0 10 6).bind fun x3 =>
  (isO O M3 x3 9).bind fun _ =>
  xcl (f_Rule_putEnd O f x3 0 0 M3) fun _ M4 =>
  (gR O M4 v0 10 6).bind fun x5 =>
  (pJ M4 x5 9 0 v2).bind fun M5 =>
  (pJ M5 v0 10 7 0).bind fun M6 =>
  (isO O M6 v0 10).bind fun _ =>
  xcl (f_Series_forgetAnswers O f v0 M6) fun _ M7 =>
  some ((), M7)
set_option maxRecDepth 20000 in
theorem k_f_Series_start (O : Nat → Option va_E) (f d : Nat) (v0 : Nat) (v1 : Int) (v2 : Int) (M : xM) : xZ oU O (d + 2) 39 0 [(0, .ref v0), (1, .int (yw v1)), (2, .int (yw v2))] [] M (f_Series_start O f v0 v1 v2 M) := by
  unfold f_Series_start
  refine xZ.adv (me := xm39) hP_39 2 (pc' := 2) (lv' := [(0, .ref v0), (1, .int (yw v1)), (2, .int (yw v2))]) (st' := [.int (1 : Int32), .ref v0]) rfl ?_
  refine xZ.eqs (lv2 := [(0, .ref v0), (1, .int (yw v1)), (2, .int (yw v2))]) (st2 := [.int (yw 1), .ref v0]) rfl (by simp only [yl_lit, yL_lit, yw_add, yw_sub, yw_mul, yw_neg, yl_add, yl_sub, yl_mul, cj_and, cj_or, cj_xor, cj_shl, cj_shr, cj_ushr, cj_div, cj_i2c, cj_i2b, cj_dc, ck_and, ck_or, ck_xor, ck_shl, ck_shr, ck_ushr, ck_i2l, ck_l2i, ck_cmp]) ?_
  refine xZ.k_pJ (me := xm39) hP_39 rfl (fun M1 => ?_)
  refine xZ.adv (me := xm39) hP_39 2 (pc' := 7) (lv' := [(0, .ref v0), (1, .int (yw v1)), (2, .int (yw v2))]) (st' := [.int (yw v1), .ref v0]) rfl ?_
  refine xZ.k_pJ (me := xm39) hP_39 rfl (fun M2 => ?_)
  refine xZ.adv (me := xm39) hP_39 1 (pc' := 11) (lv' := [(0, .ref v0), (1, .int (yw v1)), (2, .int (yw v2))]) (st' := [.ref v0]) rfl ?_
  refine xZ.k_gR (me := xm39) hP_39 rfl (fun x1 => ?_)
  refine xZ.adv (me := xm39) hP_39 4 (pc' := 18) (lv' := [(0, .ref v0), (1, .int (yw v1)), (2, .int (yw v2))]) (st' := [.int (0 : Int32), .int (0 : Int32), .int (0 : Int32), .int (0 : Int32), .ref x1]) rfl ?_
  refine xZ.eqs (lv2 := [(0, .ref v0), (1, .int (yw v1)), (2, .int (yw v2))]) (st2 := [.int (yw 0), .int (yw 0), .int (yw 0), .int (yw 0), .ref x1]) rfl (by simp only [yl_lit, yL_lit, yw_add, yw_sub, yw_mul, yw_neg, yl_add, yl_sub, yl_mul, cj_and, cj_or, cj_xor, cj_shl, cj_shr, cj_ushr, cj_div, cj_i2c, cj_i2b, cj_dc, ck_and, ck_or, ck_xor, ck_shl, ck_shr, ck_ushr, ck_i2l, ck_l2i, ck_cmp]) ?_
  refine xZ.callv (κ := oU) (av := [.int (yw 0), .int (yw 0), .int (yw 0), .int (yw 0)]) (rest := []) (st' := fun _ => []) (k0 := x1) (me := xm39) hP_39 rfl (Or.inl rfl) ⟨rfl, by decide⟩ rfl rfl (Nat.le_of_ble_eq_true rfl) (by decide) hP_32 (Nat.le_of_ble_eq_true rfl) (fun _ => rfl) (k_f_Rule_put O f (d + 1) x1 0 0 0 0 M2) (fun _ M3 => ?_)
  refine xZ.adv (me := xm39) hP_39 1 (pc' := 22) (lv' := [(0, .ref v0), (1, .int (yw v1)), (2, .int (yw v2))]) (st' := [.ref v0]) rfl ?_
  refine xZ.k_gR (me := xm39) hP_39 rfl (fun x3 => ?_)
  refine xZ.adv (me := xm39) hP_39 2 (pc' := 27) (lv' := [(0, .ref v0), (1, .int (yw v1)), (2, .int (yw v2))]) (st' := [.int (0 : Int32), .int (0 : Int32), .ref x3]) rfl ?_
  refine xZ.eqs (lv2 := [(0, .ref v0), (1, .int (yw v1)), (2, .int (yw v2))]) (st2 := [.int (yw 0), .int (yw 0), .ref x3]) rfl (by simp only [yl_lit, yL_lit, yw_add, yw_sub, yw_mul, yw_neg, yl_add, yl_sub, yl_mul, cj_and, cj_or, cj_xor, cj_shl, cj_shr, cj_ushr, cj_div, cj_i2c, cj_i2b, cj_dc, ck_and, ck_or, ck_xor, ck_shl, ck_shr, ck_ushr, ck_i2l, ck_l2i, ck_cmp]) ?_
  refine xZ.callv (κ := oU) (av := [.int (yw 0), .int (yw 0)]) (rest := []) (st' := fun _ => []) (k0 := x3) (me := xm39) hP_39 rfl (Or.inl rfl) ⟨rfl, by decide⟩ rfl rfl (Nat.le_of_ble_eq_true rfl) (by decide) hP_33 (Nat.le_of_ble_eq_true rfl) (fun _ => rfl) (k_f_Rule_putEnd O f (d + 1) x3 0 0 M3) (fun _ M4 => ?_)
  refine xZ.adv (me := xm39) hP_39 1 (pc' := 31) (lv' := [(0, .ref v0), (1, .int (yw v1)), (2, .int (yw v2))]) (st' := [.ref v0]) rfl ?_
  refine xZ.k_gR (me := xm39) hP_39 rfl (fun x5 => ?_)
  refine xZ.adv (me := xm39) hP_39 1 (pc' := 35) (lv' := [(0, .ref v0), (1, .int (yw v1)), (2, .int (yw v2))]) (st' := [.int (yw v2), .ref x5]) rfl ?_
  refine xZ.k_pJ (me := xm39) hP_39 rfl (fun M5 => ?_)
  refine xZ.adv (me := xm39) hP_39 2 (pc' := 40) (lv' := [(0, .ref v0), (1, .int (yw v1)), (2, .int (yw v2))]) (st' := [.int (0 : Int32), .ref v0]) rfl ?_
  refine xZ.eqs (lv2 := [(0, .ref v0), (1, .int (yw v1)), (2, .int (yw v2))]) (st2 := [.int (yw 0), .ref v0]) rfl (by simp only [yl_lit, yL_lit, yw_add, yw_sub, yw_mul, yw_neg, yl_add, yl_sub, yl_mul, cj_and, cj_or, cj_xor, cj_shl, cj_shr, cj_ushr, cj_div, cj_i2c, cj_i2b, cj_dc, ck_and, ck_or, ck_xor, ck_shl, ck_shr, ck_ushr, ck_i2l, ck_l2i, ck_cmp]) ?_
  refine xZ.k_pJ (me := xm39) hP_39 rfl (fun M6 => ?_)
  refine xZ.adv (me := xm39) hP_39 1 (pc' := 44) (lv' := [(0, .ref v0), (1, .int (yw v1)), (2, .int (yw v2))]) (st' := [.ref v0]) rfl ?_
  refine xZ.callv (κ := oU) (av := []) (rest := []) (st' := fun _ => []) (k0 := v0) (me := xm39) hP_39 rfl (Or.inl rfl) ⟨rfl, by decide⟩ rfl rfl (Nat.le_of_ble_eq_true rfl) (by decide) hP_40 (Nat.le_of_ble_eq_true rfl) (fun _ => rfl) (k_f_Series_forgetAnswers O f (d + 0) v0 M6) (fun _ M7 => ?_)
  exact xZ.retu (me := xm39) hP_39 rfl rfl
def f_Days_weekOf (O : Nat → Option va_E) (f : Nat) (v0 : Int) (M : xM) : Option (Int × xM) :=
  some ((jdiv (v0 + 5) 7), M)
set_option maxRecDepth 20000 in
theorem k_f_Days_weekOf (O : Nat → Option va_E) (f d : Nat) (v0 : Int) (M : xM) : xZ oJ O (d + 0) 47 0 [(0, .int (yw v0))] [] M (f_Days_weekOf O f v0 M) := by
  unfold f_Days_weekOf
  refine xZ.adv (me := xm47) hP_47 5 (pc' := 6) (lv' := [(0, .int (yw v0))]) (st' := [.int (((yw v0) + (5 : Int32)) / (7 : Int32))]) rfl ?_
  refine xZ.eqs (lv2 := [(0, .int (yw v0))]) (st2 := [.int (yw (jdiv (v0 + 5) 7))]) rfl (by simp only [yl_lit, yL_lit, yw_add, yw_sub, yw_mul, yw_neg, yl_add, yl_sub, yl_mul, cj_and, cj_or, cj_xor, cj_shl, cj_shr, cj_ushr, cj_div, cj_i2c, cj_i2b, cj_dc, ck_and, ck_or, ck_xor, ck_shl, ck_shr, ck_ushr, ck_i2l, ck_l2i, ck_cmp]) ?_
  exact xZ.jreti (me := xm47) hP_47 rfl rfl
def f_Days_weekBegin (O : Nat → Option va_E) (f : Nat) (v0 : Int) (M : xM) : Option (Int × xM) :=
  some (((v0 * 7) - 5), M)
set_option maxRecDepth 20000 in
theorem k_f_Days_weekBegin (O : Nat → Option va_E) (f d : Nat) (v0 : Int) (M : xM) : xZ oJ O (d + 0) 48 0 [(0, .int (yw v0))] [] M (f_Days_weekBegin O f v0 M) := by
  unfold f_Days_weekBegin
  refine xZ.adv (me := xm48) hP_48 5 (pc' := 6) (lv' := [(0, .int (yw v0))]) (st' := [.int (((yw v0) * (7 : Int32)) - (5 : Int32))]) rfl ?_
  refine xZ.eqs (lv2 := [(0, .int (yw v0))]) (st2 := [.int (yw ((v0 * 7) - 5))]) rfl (by simp only [yl_lit, yL_lit, yw_add, yw_sub, yw_mul, yw_neg, yl_add, yl_sub, yl_mul, cj_and, cj_or, cj_xor, cj_shl, cj_shr, cj_ushr, cj_div, cj_i2c, cj_i2b, cj_dc, ck_and, ck_or, ck_xor, ck_shl, ck_shr, ck_ushr, ck_i2l, ck_l2i, ck_cmp]) ?_
  exact xZ.jreti (me := xm48) hP_48 rfl rfl
def f_Days_weekdayOf (O : Nat → Option va_E) (f : Nat) (v0 : Int) (M : xM) : Option (Int × xM) :=
  some (((v0 + 5) - (jdiv (v0 + 5) 7) * 7), M)
set_option maxRecDepth 20000 in
theorem k_f_Days_weekdayOf (O : Nat → Option va_E) (f d : Nat) (v0 : Int) (M : xM) : xZ oJ O (d + 0) 49 0 [(0, .int (yw v0))] [] M (f_Days_weekdayOf O f v0 M) := by
  unfold f_Days_weekdayOf
  refine xZ.adv (me := xm49) hP_49 5 (pc' := 6) (lv' := [(0, .int (yw v0))]) (st' := [.int (((yw v0) + (5 : Int32)) - ((yw v0) + (5 : Int32)) / (7 : Int32) * (7 : Int32))]) rfl ?_
  refine xZ.eqs (lv2 := [(0, .int (yw v0))]) (st2 := [.int (yw ((v0 + 5) - (jdiv (v0 + 5) 7) * 7))]) rfl (by simp only [yl_lit, yL_lit, yw_add, yw_sub, yw_mul, yw_neg, yl_add, yl_sub, yl_mul, cj_and, cj_or, cj_xor, cj_shl, cj_shr, cj_ushr, cj_div, cj_i2c, cj_i2b, cj_dc, ck_and, ck_or, ck_xor, ck_shl, ck_shr, ck_ushr, ck_i2l, ck_l2i, ck_cmp]) ?_
  exact xZ.jreti (me := xm49) hP_49 rfl rfl
def f_Math_floorMod (O : Nat → Option va_E) (f : Nat) (v0 : Int) (v1 : Int) (M : xM) : Option (Int × xM) :=
  if yw v1 = yw 0 then none else xlet (v0 - (jdiv v0 v1) * v1) fun x1 =>
  if yw 0 ≤ yw (jxor v0 v1) then (
    some (x1, M)
  ) else
  if yw x1 = yw 0 then (
    some (x1, M)
  ) else
  some ((x1 + v1), M)
set_option maxRecDepth 20000 in
theorem k_f_Math_floorMod (O : Nat → Option va_E) (f d : Nat) (v0 : Int) (v1 : Int) (M : xM) : xZ oJ O (d + 0) 250 0 [(0, .int (yw v0)), (1, .int (yw v1))] [] M (f_Math_floorMod O f v0 v1 M) := by
  unfold f_Math_floorMod
  refine xZ.adv (me := xm250) hP_250 2 (pc' := 2) (lv' := [(0, .int (yw v0)), (1, .int (yw v1))]) (st' := [.int (yw v1), .int (yw v0)]) rfl ?_
  refine xZ.k_jrem (me := xm250) hP_250 rfl (fun x1 => ?_)
  refine xZ.adv (me := xm250) hP_250 4 (pc' := 7) (lv' := [(2, .int (yw x1)), (0, .int (yw v0)), (1, .int (yw v1))]) (st' := [.int ((yw v0) ^^^ (yw v1))]) rfl ?_
  refine xZ.eqs (lv2 := [(2, .int (yw x1)), (0, .int (yw v0)), (1, .int (yw v1))]) (st2 := [.int (yw (jxor v0 v1))]) rfl (by simp only [yl_lit, yL_lit, yw_add, yw_sub, yw_mul, yw_neg, yl_add, yl_sub, yl_mul, cj_and, cj_or, cj_xor, cj_shl, cj_shr, cj_ushr, cj_div, cj_i2c, cj_i2b, cj_dc, ck_and, ck_or, ck_xor, ck_shl, ck_shr, ck_ushr, ck_i2l, ck_l2i, ck_cmp]) ?_
  refine xZ.jf_ge (me := xm250) hP_250 rfl (fun h1 => ?_) (fun h1 => ?_)
  · skip
    refine xZ.adv (me := xm250) hP_250 1 (pc' := 19) (lv' := [(2, .int (yw x1)), (0, .int (yw v0)), (1, .int (yw v1))]) (st' := [.int (yw x1)]) rfl ?_
    exact xZ.jreti (me := xm250) hP_250 rfl rfl
  · skip
    refine xZ.adv (me := xm250) hP_250 1 (pc' := 11) (lv' := [(2, .int (yw x1)), (0, .int (yw v0)), (1, .int (yw v1))]) (st' := [.int (yw x1)]) rfl ?_
    refine xZ.jf_eq (me := xm250) hP_250 rfl (fun h2 => ?_) (fun h2 => ?_)
    · skip
      refine xZ.adv (me := xm250) hP_250 1 (pc' := 19) (lv' := [(2, .int (yw x1)), (0, .int (yw v0)), (1, .int (yw v1))]) (st' := [.int (yw x1)]) rfl ?_
      exact xZ.jreti (me := xm250) hP_250 rfl rfl
    · skip
      refine xZ.adv (me := xm250) hP_250 3 (pc' := 17) (lv' := [(2, .int (yw x1)), (0, .int (yw v0)), (1, .int (yw v1))]) (st' := [.int ((yw x1) + (yw v1))]) rfl ?_
      refine xZ.eqs (lv2 := [(2, .int (yw x1)), (0, .int (yw v0)), (1, .int (yw v1))]) (st2 := [.int (yw (x1 + v1))]) rfl (by simp only [yl_lit, yL_lit, yw_add, yw_sub, yw_mul, yw_neg, yl_add, yl_sub, yl_mul, cj_and, cj_or, cj_xor, cj_shl, cj_shr, cj_ushr, cj_div, cj_i2c, cj_i2b, cj_dc, ck_and, ck_or, ck_xor, ck_shl, ck_shr, ck_ushr, ck_i2l, ck_l2i, ck_cmp]) ?_
      exact xZ.jreti (me := xm250) hP_250 rfl rfl
def f_Rule_nextByWeeks_119 (O : Nat → Option va_E) (f : Nat) : Nat → Nat → Int → Int → xM → Option (Int × xM)
  | 0, _, _, _, _ => none
  | n + 1, v0, v4, v5, M =>
    if yw 7 ≤ yw v5 then (
      some ((-1), M)
    ) else
    (gJ O M v0 9 3).bind fun x1 =>
    if yw (jand (jshr x1 (jand v5 31)) 1) = yw 1 then (
      some ((v4 + v5), M)
    ) else
    f_Rule_nextByWeeks_119 O f n v0 v4 (v5 + 1) M
set_option maxRecDepth 20000 in
theorem k_f_Rule_nextByWeeks_119 (O : Nat → Option va_E) (f d : Nat) : ∀ (n : Nat) (v0 : Nat) (v4 : Int) (v5 : Int) (M : xM), xZ oJ O (d + 1) 46 119 [(0, .ref v0), (4, .int (yw v4)), (5, .int (yw v5))] [] M (f_Rule_nextByWeeks_119 O f n v0 v4 v5 M) := by
  intro n
  induction n with
  | zero =>
    intro v0 v4 v5 M
    exact xZ.no
  | succ n ih =>
    intro v0 v4 v5 M
    unfold f_Rule_nextByWeeks_119
    refine xZ.adv (me := xm46) hP_46 2 (pc' := 123) (lv' := [(0, .ref v0), (4, .int (yw v4)), (5, .int (yw v5))]) (st' := [.int (7 : Int32), .int (yw v5)]) rfl ?_
    refine xZ.eqs (lv2 := [(0, .ref v0), (4, .int (yw v4)), (5, .int (yw v5))]) (st2 := [.int (yw 7), .int (yw v5)]) rfl (by simp only [yl_lit, yL_lit, yw_add, yw_sub, yw_mul, yw_neg, yl_add, yl_sub, yl_mul, cj_and, cj_or, cj_xor, cj_shl, cj_shr, cj_ushr, cj_div, cj_i2c, cj_i2b, cj_dc, ck_and, ck_or, ck_xor, ck_shl, ck_shr, ck_ushr, ck_i2l, ck_l2i, ck_cmp]) ?_
    refine xZ.jc_ge (me := xm46) hP_46 rfl (fun h1 => ?_) (fun h1 => ?_)
    · skip
      refine xZ.adv (me := xm46) hP_46 1 (pc' := 152) (lv' := [(0, .ref v0), (4, .int (yw v4)), (5, .int (yw v5))]) (st' := [.int (-1 : Int32)]) rfl ?_
      refine xZ.eqs (lv2 := [(0, .ref v0), (4, .int (yw v4)), (5, .int (yw v5))]) (st2 := [.int (yw (-1))]) rfl (by simp only [yl_lit, yL_lit, yw_add, yw_sub, yw_mul, yw_neg, yl_add, yl_sub, yl_mul, cj_and, cj_or, cj_xor, cj_shl, cj_shr, cj_ushr, cj_div, cj_i2c, cj_i2b, cj_dc, ck_and, ck_or, ck_xor, ck_shl, ck_shr, ck_ushr, ck_i2l, ck_l2i, ck_cmp]) ?_
      exact xZ.jreti (me := xm46) hP_46 rfl rfl
    · skip
      refine xZ.adv (me := xm46) hP_46 1 (pc' := 127) (lv' := [(0, .ref v0), (4, .int (yw v4)), (5, .int (yw v5))]) (st' := [.ref v0]) rfl ?_
      refine xZ.k_gJ (me := xm46) hP_46 rfl (fun x1 => ?_)
      refine xZ.adv (me := xm46) hP_46 5 (pc' := 136) (lv' := [(0, .ref v0), (4, .int (yw v4)), (5, .int (yw v5))]) (st' := [.int (1 : Int32), .int (((yw x1) >>> ((yw v5) &&& 31)) &&& (1 : Int32))]) rfl ?_
      refine xZ.eqs (lv2 := [(0, .ref v0), (4, .int (yw v4)), (5, .int (yw v5))]) (st2 := [.int (yw 1), .int (yw (jand (jshr x1 (jand v5 31)) 1))]) rfl (by simp only [yl_lit, yL_lit, yw_add, yw_sub, yw_mul, yw_neg, yl_add, yl_sub, yl_mul, cj_and, cj_or, cj_xor, cj_shl, cj_shr, cj_ushr, cj_div, cj_i2c, cj_i2b, cj_dc, ck_and, ck_or, ck_xor, ck_shl, ck_shr, ck_ushr, ck_i2l, ck_l2i, ck_cmp]) ?_
      refine xZ.jc_ne (me := xm46) hP_46 rfl (fun h2 => ?_) (fun h2 => ?_)
      · skip
        refine xZ.adv (me := xm46) hP_46 3 (pc' := 144) (lv' := [(0, .ref v0), (4, .int (yw v4)), (5, .int (yw v5))]) (st' := [.int ((yw v4) + (yw v5))]) rfl ?_
        refine xZ.eqs (lv2 := [(0, .ref v0), (4, .int (yw v4)), (5, .int (yw v5))]) (st2 := [.int (yw (v4 + v5))]) rfl (by simp only [yl_lit, yL_lit, yw_add, yw_sub, yw_mul, yw_neg, yl_add, yl_sub, yl_mul, cj_and, cj_or, cj_xor, cj_shl, cj_shr, cj_ushr, cj_div, cj_i2c, cj_i2b, cj_dc, ck_and, ck_or, ck_xor, ck_shl, ck_shr, ck_ushr, ck_i2l, ck_l2i, ck_cmp]) ?_
        exact xZ.jreti (me := xm46) hP_46 rfl rfl
      · skip
        refine xZ.adv (me := xm46) hP_46 2 (pc' := 119) (lv' := [(5, .int ((yw v5) + (1 : Int32))), (0, .ref v0), (4, .int (yw v4))]) (st' := []) rfl ?_
        refine xZ.eqs (lv2 := [(5, .int (yw (v5 + 1))), (0, .ref v0), (4, .int (yw v4))]) (st2 := []) (by simp only [yl_lit, yL_lit, yw_add, yw_sub, yw_mul, yw_neg, yl_add, yl_sub, yl_mul, cj_and, cj_or, cj_xor, cj_shl, cj_shr, cj_ushr, cj_div, cj_i2c, cj_i2b, cj_dc, ck_and, ck_or, ck_xor, ck_shl, ck_shr, ck_ushr, ck_i2l, ck_l2i, ck_cmp]) rfl ?_
        exact xZ.sub (xsc (.tail _ (.head _)) (xsc (.tail _ (.tail _ (.head _))) (xsc (.head _) xsn))) (show ([5, 0, 4] : List Nat).Nodup from by decide) (ih v0 v4 (v5 + 1) M)
def f_Rule_nextByWeeks_110 (O : Nat → Option va_E) (f : Nat) (v0 : Nat) (s0 : Int) (s1 : Int) (M : xM) : Option (Int × xM) :=
  xcl (f_Days_weekBegin O f (s0 + s1) M) fun x1 M1 =>
  f_Rule_nextByWeeks_119 O f f v0 x1 0 M1
set_option maxRecDepth 20000 in
theorem k_f_Rule_nextByWeeks_110 (O : Nat → Option va_E) (f d : Nat) (v0 : Nat) (s0 : Int) (s1 : Int) (M : xM) : xZ oJ O (d + 1) 46 110 [(0, .ref v0)] [.int (yw s1), .int (yw s0)] M (f_Rule_nextByWeeks_110 O f v0 s0 s1 M) := by
  unfold f_Rule_nextByWeeks_110
  refine xZ.adv (me := xm46) hP_46 1 (pc' := 111) (lv' := [(0, .ref v0)]) (st' := [.int ((yw s0) + (yw s1))]) rfl ?_
  refine xZ.eqs (lv2 := [(0, .ref v0)]) (st2 := [.int (yw (s0 + s1))]) rfl (by simp only [yl_lit, yL_lit, yw_add, yw_sub, yw_mul, yw_neg, yl_add, yl_sub, yl_mul, cj_and, cj_or, cj_xor, cj_shl, cj_shr, cj_ushr, cj_div, cj_i2c, cj_i2b, cj_dc, ck_and, ck_or, ck_xor, ck_shl, ck_shr, ck_ushr, ck_i2l, ck_l2i, ck_cmp]) ?_
  refine xZ.calls (κ := oJ) (av := [.int (yw (s0 + s1))]) (rest := []) (st' := fun x1 => [.int (yw x1)]) (me := xm46) hP_46 rfl rfl rfl (Nat.le_of_ble_eq_true rfl) (by decide) hP_48 (Nat.le_of_ble_eq_true rfl) (fun _ => rfl) (k_f_Days_weekBegin O f (d + 0) (s0 + s1) M) (fun x1 M1 => ?_)
  refine xZ.adv (me := xm46) hP_46 3 (pc' := 119) (lv' := [(5, .int (0 : Int32)), (4, .int (yw x1)), (0, .ref v0)]) (st' := []) rfl ?_
  refine xZ.eqs (lv2 := [(5, .int (yw 0)), (4, .int (yw x1)), (0, .ref v0)]) (st2 := []) (by simp only [yl_lit, yL_lit, yw_add, yw_sub, yw_mul, yw_neg, yl_add, yl_sub, yl_mul, cj_and, cj_or, cj_xor, cj_shl, cj_shr, cj_ushr, cj_div, cj_i2c, cj_i2b, cj_dc, ck_and, ck_or, ck_xor, ck_shl, ck_shr, ck_ushr, ck_i2l, ck_l2i, ck_cmp]) rfl ?_
  exact xZ.sub (xsc (.tail _ (.tail _ (.head _))) (xsc (.tail _ (.head _)) (xsc (.head _) xsn))) (show ([5, 4, 0] : List Nat).Nodup from by decide) (k_f_Rule_nextByWeeks_119 O f d f v0 x1 0 M1)
def f_Rule_nextByWeeks_57 (O : Nat → Option va_E) (f : Nat) : Nat → Nat → Int → Int → Int → Int → xM → Option (Int × xM)
  | 0, _, _, _, _, _, _ => none
  | n + 1, v0, v2, v3, v4, v5, M =>
    if yw 7 ≤ yw v5 then (
      if yw v3 = yw 0 then (
        (gJ O M v0 9 2).bind fun x1 =>
        f_Rule_nextByWeeks_110 O f v0 (v2 + v3) x1 M
      ) else
      f_Rule_nextByWeeks_110 O f v0 (v2 + v3) 0 M
    ) else
    (gJ O M v0 9 3).bind fun x2 =>
    if yw (jand (jshr x2 (jand v5 31)) 1) = yw 1 then (
      xcl (f_Days_weekdayOf O f v4 M) fun x3 M1 =>
      some (((v4 + v5) - x3), M1)
    ) else
    f_Rule_nextByWeeks_57 O f n v0 v2 v3 v4 (v5 + 1) M
set_option maxRecDepth 20000 in
theorem k_f_Rule_nextByWeeks_57 (O : Nat → Option va_E) (f d : Nat) : ∀ (n : Nat) (v0 : Nat) (v2 : Int) (v3 : Int) (v4 : Int) (v5 : Int) (M : xM), xZ oJ O (d + 1) 46 57 [(0, .ref v0), (2, .int (yw v2)), (3, .int (yw v3)), (4, .int (yw v4)), (5, .int (yw v5))] [] M (f_Rule_nextByWeeks_57 O f n v0 v2 v3 v4 v5 M) := by
  intro n
  induction n with
  | zero =>
    intro v0 v2 v3 v4 v5 M
    exact xZ.no
  | succ n ih =>
    intro v0 v2 v3 v4 v5 M
    unfold f_Rule_nextByWeeks_57
    refine xZ.adv (me := xm46) hP_46 2 (pc' := 61) (lv' := [(0, .ref v0), (2, .int (yw v2)), (3, .int (yw v3)), (4, .int (yw v4)), (5, .int (yw v5))]) (st' := [.int (7 : Int32), .int (yw v5)]) rfl ?_
    refine xZ.eqs (lv2 := [(0, .ref v0), (2, .int (yw v2)), (3, .int (yw v3)), (4, .int (yw v4)), (5, .int (yw v5))]) (st2 := [.int (yw 7), .int (yw v5)]) rfl (by simp only [yl_lit, yL_lit, yw_add, yw_sub, yw_mul, yw_neg, yl_add, yl_sub, yl_mul, cj_and, cj_or, cj_xor, cj_shl, cj_shr, cj_ushr, cj_div, cj_i2c, cj_i2b, cj_dc, ck_and, ck_or, ck_xor, ck_shl, ck_shr, ck_ushr, ck_i2l, ck_l2i, ck_cmp]) ?_
    refine xZ.jc_ge (me := xm46) hP_46 rfl (fun h1 => ?_) (fun h1 => ?_)
    · skip
      refine xZ.adv (me := xm46) hP_46 4 (pc' := 99) (lv' := [(0, .ref v0), (2, .int (yw v2)), (3, .int (yw v3)), (4, .int (yw v4)), (5, .int (yw v5))]) (st' := [.int (yw v3), .int ((yw v2) + (yw v3))]) rfl ?_
      refine xZ.eqs (lv2 := [(0, .ref v0), (2, .int (yw v2)), (3, .int (yw v3)), (4, .int (yw v4)), (5, .int (yw v5))]) (st2 := [.int (yw v3), .int (yw (v2 + v3))]) rfl (by simp only [yl_lit, yL_lit, yw_add, yw_sub, yw_mul, yw_neg, yl_add, yl_sub, yl_mul, cj_and, cj_or, cj_xor, cj_shl, cj_shr, cj_ushr, cj_div, cj_i2c, cj_i2b, cj_dc, ck_and, ck_or, ck_xor, ck_shl, ck_shr, ck_ushr, ck_i2l, ck_l2i, ck_cmp]) ?_
      refine xZ.jf_ne (me := xm46) hP_46 rfl (fun h2 => ?_) (fun h2 => ?_)
      · skip
        refine xZ.adv (me := xm46) hP_46 1 (pc' := 103) (lv' := [(0, .ref v0), (2, .int (yw v2)), (3, .int (yw v3)), (4, .int (yw v4)), (5, .int (yw v5))]) (st' := [.ref v0, .int (yw (v2 + v3))]) rfl ?_
        refine xZ.k_gJ (me := xm46) hP_46 rfl (fun x1 => ?_)
        refine xZ.adv (me := xm46) hP_46 1 (pc' := 110) (lv' := [(0, .ref v0), (2, .int (yw v2)), (3, .int (yw v3)), (4, .int (yw v4)), (5, .int (yw v5))]) (st' := [.int (yw x1), .int (yw (v2 + v3))]) rfl ?_
        exact xZ.sub (xsc (.head _) xsn) (show ([0, 2, 3, 4, 5] : List Nat).Nodup from by decide) (k_f_Rule_nextByWeeks_110 O f d v0 (v2 + v3) x1 M)
      · skip
        refine xZ.adv (me := xm46) hP_46 1 (pc' := 110) (lv' := [(0, .ref v0), (2, .int (yw v2)), (3, .int (yw v3)), (4, .int (yw v4)), (5, .int (yw v5))]) (st' := [.int (0 : Int32), .int (yw (v2 + v3))]) rfl ?_
        refine xZ.eqs (lv2 := [(0, .ref v0), (2, .int (yw v2)), (3, .int (yw v3)), (4, .int (yw v4)), (5, .int (yw v5))]) (st2 := [.int (yw 0), .int (yw (v2 + v3))]) rfl (by simp only [yl_lit, yL_lit, yw_add, yw_sub, yw_mul, yw_neg, yl_add, yl_sub, yl_mul, cj_and, cj_or, cj_xor, cj_shl, cj_shr, cj_ushr, cj_div, cj_i2c, cj_i2b, cj_dc, ck_and, ck_or, ck_xor, ck_shl, ck_shr, ck_ushr, ck_i2l, ck_l2i, ck_cmp]) ?_
        exact xZ.sub (xsc (.head _) xsn) (show ([0, 2, 3, 4, 5] : List Nat).Nodup from by decide) (k_f_Rule_nextByWeeks_110 O f d v0 (v2 + v3) 0 M)
    · skip
      refine xZ.adv (me := xm46) hP_46 1 (pc' := 65) (lv' := [(0, .ref v0), (2, .int (yw v2)), (3, .int (yw v3)), (4, .int (yw v4)), (5, .int (yw v5))]) (st' := [.ref v0]) rfl ?_
      refine xZ.k_gJ (me := xm46) hP_46 rfl (fun x2 => ?_)
      refine xZ.adv (me := xm46) hP_46 5 (pc' := 74) (lv' := [(0, .ref v0), (2, .int (yw v2)), (3, .int (yw v3)), (4, .int (yw v4)), (5, .int (yw v5))]) (st' := [.int (1 : Int32), .int (((yw x2) >>> ((yw v5) &&& 31)) &&& (1 : Int32))]) rfl ?_
      refine xZ.eqs (lv2 := [(0, .ref v0), (2, .int (yw v2)), (3, .int (yw v3)), (4, .int (yw v4)), (5, .int (yw v5))]) (st2 := [.int (yw 1), .int (yw (jand (jshr x2 (jand v5 31)) 1))]) rfl (by simp only [yl_lit, yL_lit, yw_add, yw_sub, yw_mul, yw_neg, yl_add, yl_sub, yl_mul, cj_and, cj_or, cj_xor, cj_shl, cj_shr, cj_ushr, cj_div, cj_i2c, cj_i2b, cj_dc, ck_and, ck_or, ck_xor, ck_shl, ck_shr, ck_ushr, ck_i2l, ck_l2i, ck_cmp]) ?_
      refine xZ.jc_ne (me := xm46) hP_46 rfl (fun h3 => ?_) (fun h3 => ?_)
      · skip
        refine xZ.adv (me := xm46) hP_46 4 (pc' := 84) (lv' := [(0, .ref v0), (2, .int (yw v2)), (3, .int (yw v3)), (4, .int (yw v4)), (5, .int (yw v5))]) (st' := [.int (yw v4), .int ((yw v4) + (yw v5))]) rfl ?_
        refine xZ.eqs (lv2 := [(0, .ref v0), (2, .int (yw v2)), (3, .int (yw v3)), (4, .int (yw v4)), (5, .int (yw v5))]) (st2 := [.int (yw v4), .int (yw (v4 + v5))]) rfl (by simp only [yl_lit, yL_lit, yw_add, yw_sub, yw_mul, yw_neg, yl_add, yl_sub, yl_mul, cj_and, cj_or, cj_xor, cj_shl, cj_shr, cj_ushr, cj_div, cj_i2c, cj_i2b, cj_dc, ck_and, ck_or, ck_xor, ck_shl, ck_shr, ck_ushr, ck_i2l, ck_l2i, ck_cmp]) ?_
        refine xZ.calls (κ := oJ) (av := [.int (yw v4)]) (rest := [.int (yw (v4 + v5))]) (st' := fun x3 => [.int (yw x3), .int (yw (v4 + v5))]) (me := xm46) hP_46 rfl rfl rfl (Nat.le_of_ble_eq_true rfl) (by decide) hP_49 (Nat.le_of_ble_eq_true rfl) (fun _ => rfl) (k_f_Days_weekdayOf O f (d + 0) v4 M) (fun x3 M1 => ?_)
        refine xZ.adv (me := xm46) hP_46 1 (pc' := 88) (lv' := [(0, .ref v0), (2, .int (yw v2)), (3, .int (yw v3)), (4, .int (yw v4)), (5, .int (yw v5))]) (st' := [.int ((yw (v4 + v5)) - (yw x3))]) rfl ?_
        refine xZ.eqs (lv2 := [(0, .ref v0), (2, .int (yw v2)), (3, .int (yw v3)), (4, .int (yw v4)), (5, .int (yw v5))]) (st2 := [.int (yw ((v4 + v5) - x3))]) rfl (by simp only [yl_lit, yL_lit, yw_add, yw_sub, yw_mul, yw_neg, yl_add, yl_sub, yl_mul, cj_and, cj_or, cj_xor, cj_shl, cj_shr, cj_ushr, cj_div, cj_i2c, cj_i2b, cj_dc, ck_and, ck_or, ck_xor, ck_shl, ck_shr, ck_ushr, ck_i2l, ck_l2i, ck_cmp]) ?_
        exact xZ.jreti (me := xm46) hP_46 rfl rfl
      · skip
        refine xZ.adv (me := xm46) hP_46 2 (pc' := 57) (lv' := [(5, .int ((yw v5) + (1 : Int32))), (0, .ref v0), (2, .int (yw v2)), (3, .int (yw v3)), (4, .int (yw v4))]) (st' := []) rfl ?_
        refine xZ.eqs (lv2 := [(5, .int (yw (v5 + 1))), (0, .ref v0), (2, .int (yw v2)), (3, .int (yw v3)), (4, .int (yw v4))]) (st2 := []) (by simp only [yl_lit, yL_lit, yw_add, yw_sub, yw_mul, yw_neg, yl_add, yl_sub, yl_mul, cj_and, cj_or, cj_xor, cj_shl, cj_shr, cj_ushr, cj_div, cj_i2c, cj_i2b, cj_dc, ck_and, ck_or, ck_xor, ck_shl, ck_shr, ck_ushr, ck_i2l, ck_l2i, ck_cmp]) rfl ?_
        exact xZ.sub (xsc (.tail _ (.head _)) (xsc (.tail _ (.tail _ (.head _))) (xsc (.tail _ (.tail _ (.tail _ (.head _)))) (xsc (.tail _ (.tail _ (.tail _ (.tail _ (.head _))))) (xsc (.head _) xsn))))) (show ([5, 0, 2, 3, 4] : List Nat).Nodup from by decide) (ih v0 v2 v3 v4 (v5 + 1) M)
def f_Rule_nextByWeeks_48 (O : Nat → Option va_E) (f : Nat) (v0 : Nat) (v2 : Int) (v3 : Int) (s0 : Int) (M : xM) : Option (Int × xM) :=
  xcl (f_Days_weekdayOf O f s0 M) fun x1 M1 =>
  f_Rule_nextByWeeks_57 O f f v0 v2 v3 s0 x1 M1
set_option maxRecDepth 20000 in
theorem k_f_Rule_nextByWeeks_48 (O : Nat → Option va_E) (f d : Nat) (v0 : Nat) (v2 : Int) (v3 : Int) (s0 : Int) (M : xM) : xZ oJ O (d + 1) 46 48 [(0, .ref v0), (2, .int (yw v2)), (3, .int (yw v3))] [.int (yw s0)] M (f_Rule_nextByWeeks_48 O f v0 v2 v3 s0 M) := by
  unfold f_Rule_nextByWeeks_48
  refine xZ.adv (me := xm46) hP_46 2 (pc' := 52) (lv' := [(4, .int (yw s0)), (0, .ref v0), (2, .int (yw v2)), (3, .int (yw v3))]) (st' := [.int (yw s0)]) rfl ?_
  refine xZ.calls (κ := oJ) (av := [.int (yw s0)]) (rest := []) (st' := fun x1 => [.int (yw x1)]) (me := xm46) hP_46 rfl rfl rfl (Nat.le_of_ble_eq_true rfl) (by decide) hP_49 (Nat.le_of_ble_eq_true rfl) (fun _ => rfl) (k_f_Days_weekdayOf O f (d + 0) s0 M) (fun x1 M1 => ?_)
  refine xZ.adv (me := xm46) hP_46 1 (pc' := 57) (lv' := [(5, .int (yw x1)), (4, .int (yw s0)), (0, .ref v0), (2, .int (yw v2)), (3, .int (yw v3))]) (st' := []) rfl ?_
  exact xZ.sub (xsc (.tail _ (.tail _ (.head _))) (xsc (.tail _ (.tail _ (.tail _ (.head _)))) (xsc (.tail _ (.tail _ (.tail _ (.tail _ (.head _))))) (xsc (.tail _ (.head _)) (xsc (.head _) xsn))))) (show ([5, 4, 0, 2, 3] : List Nat).Nodup from by decide) (k_f_Rule_nextByWeeks_57 O f d f v0 v2 v3 s0 x1 M1)
def f_Rule_nextByWeeks_33 (O : Nat → Option va_E) (f : Nat) (v0 : Nat) (v1 : Int) (v2 : Int) (s0 : Int) (M : xM) : Option (Int × xM) :=
  if yw s0 = yw 0 then (
    f_Rule_nextByWeeks_48 O f v0 v2 s0 v1 M
  ) else
  xcl (f_Days_weekBegin O f (v2 + s0) M) fun x1 M1 =>
  f_Rule_nextByWeeks_48 O f v0 v2 s0 x1 M1
set_option maxRecDepth 20000 in
theorem k_f_Rule_nextByWeeks_33 (O : Nat → Option va_E) (f d : Nat) (v0 : Nat) (v1 : Int) (v2 : Int) (s0 : Int) (M : xM) : xZ oJ O (d + 1) 46 33 [(0, .ref v0), (1, .int (yw v1)), (2, .int (yw v2))] [.int (yw s0)] M (f_Rule_nextByWeeks_33 O f v0 v1 v2 s0 M) := by
  unfold f_Rule_nextByWeeks_33
  refine xZ.adv (me := xm46) hP_46 2 (pc' := 35) (lv' := [(3, .int (yw s0)), (0, .ref v0), (1, .int (yw v1)), (2, .int (yw v2))]) (st' := [.int (yw s0)]) rfl ?_
  refine xZ.jf_ne (me := xm46) hP_46 rfl (fun h1 => ?_) (fun h1 => ?_)
  · skip
    refine xZ.adv (me := xm46) hP_46 2 (pc' := 48) (lv' := [(3, .int (yw s0)), (0, .ref v0), (1, .int (yw v1)), (2, .int (yw v2))]) (st' := [.int (yw v1)]) rfl ?_
    exact xZ.sub (xsc (.tail _ (.head _)) (xsc (.tail _ (.tail _ (.tail _ (.head _)))) (xsc (.head _) xsn))) (show ([3, 0, 1, 2] : List Nat).Nodup from by decide) (k_f_Rule_nextByWeeks_48 O f d v0 v2 s0 v1 M)
  · skip
    refine xZ.adv (me := xm46) hP_46 3 (pc' := 45) (lv' := [(3, .int (yw s0)), (0, .ref v0), (1, .int (yw v1)), (2, .int (yw v2))]) (st' := [.int ((yw v2) + (yw s0))]) rfl ?_
    refine xZ.eqs (lv2 := [(3, .int (yw s0)), (0, .ref v0), (1, .int (yw v1)), (2, .int (yw v2))]) (st2 := [.int (yw (v2 + s0))]) rfl (by simp only [yl_lit, yL_lit, yw_add, yw_sub, yw_mul, yw_neg, yl_add, yl_sub, yl_mul, cj_and, cj_or, cj_xor, cj_shl, cj_shr, cj_ushr, cj_div, cj_i2c, cj_i2b, cj_dc, ck_and, ck_or, ck_xor, ck_shl, ck_shr, ck_ushr, ck_i2l, ck_l2i, ck_cmp]) ?_
    refine xZ.calls (κ := oJ) (av := [.int (yw (v2 + s0))]) (rest := []) (st' := fun x1 => [.int (yw x1)]) (me := xm46) hP_46 rfl rfl rfl (Nat.le_of_ble_eq_true rfl) (by decide) hP_48 (Nat.le_of_ble_eq_true rfl) (fun _ => rfl) (k_f_Days_weekBegin O f (d + 0) (v2 + s0) M) (fun x1 M1 => ?_)
    exact xZ.sub (xsc (.tail _ (.head _)) (xsc (.tail _ (.tail _ (.tail _ (.head _)))) (xsc (.head _) xsn))) (show ([3, 0, 1, 2] : List Nat).Nodup from by decide) (k_f_Rule_nextByWeeks_48 O f d v0 v2 s0 x1 M1)
def f_Rule_nextByWeeks (O : Nat → Option va_E) (f : Nat) (v0 : Nat) (v1 : Int) (M : xM) : Option (Int × xM) :=
  xcl (f_Days_weekOf O f v1 M) fun x1 M1 =>
  (gJ O M1 v0 9 2).bind fun x2 =>
  if yw 1 ≤ yw x2 then (
    (gJ O M1 v0 9 0).bind fun x3 =>
    xcl (f_Days_weekOf O f x3 M1) fun x4 M2 =>
    (gJ O M2 v0 9 2).bind fun x5 =>
    xcl (f_Math_floorMod O f (x4 - x1) x5 M2) fun x6 M3 =>
    f_Rule_nextByWeeks_33 O f v0 v1 x1 x6 M3
  ) else
  f_Rule_nextByWeeks_33 O f v0 v1 x1 0 M1
set_option maxRecDepth 20000 in
theorem k_f_Rule_nextByWeeks (O : Nat → Option va_E) (f d : Nat) (v0 : Nat) (v1 : Int) (M : xM) : xZ oJ O (d + 1) 46 0 [(0, .ref v0), (1, .int (yw v1))] [] M (f_Rule_nextByWeeks O f v0 v1 M) := by
  unfold f_Rule_nextByWeeks
  refine xZ.adv (me := xm46) hP_46 1 (pc' := 1) (lv' := [(0, .ref v0), (1, .int (yw v1))]) (st' := [.int (yw v1)]) rfl ?_
  refine xZ.calls (κ := oJ) (av := [.int (yw v1)]) (rest := []) (st' := fun x1 => [.int (yw x1)]) (me := xm46) hP_46 rfl rfl rfl (Nat.le_of_ble_eq_true rfl) (by decide) hP_47 (Nat.le_of_ble_eq_true rfl) (fun _ => rfl) (k_f_Days_weekOf O f (d + 0) v1 M) (fun x1 M1 => ?_)
  refine xZ.adv (me := xm46) hP_46 2 (pc' := 6) (lv' := [(2, .int (yw x1)), (0, .ref v0), (1, .int (yw v1))]) (st' := [.ref v0]) rfl ?_
  refine xZ.k_gJ (me := xm46) hP_46 rfl (fun x2 => ?_)
  refine xZ.adv (me := xm46) hP_46 1 (pc' := 10) (lv' := [(2, .int (yw x1)), (0, .ref v0), (1, .int (yw v1))]) (st' := [.int (1 : Int32), .int (yw x2)]) rfl ?_
  refine xZ.eqs (lv2 := [(2, .int (yw x1)), (0, .ref v0), (1, .int (yw v1))]) (st2 := [.int (yw 1), .int (yw x2)]) rfl (by simp only [yl_lit, yL_lit, yw_add, yw_sub, yw_mul, yw_neg, yl_add, yl_sub, yl_mul, cj_and, cj_or, cj_xor, cj_shl, cj_shr, cj_ushr, cj_div, cj_i2c, cj_i2b, cj_dc, ck_and, ck_or, ck_xor, ck_shl, ck_shr, ck_ushr, ck_i2l, ck_l2i, ck_cmp]) ?_
  refine xZ.jc_ge (me := xm46) hP_46 rfl (fun h1 => ?_) (fun h1 => ?_)
  · skip
    refine xZ.adv (me := xm46) hP_46 1 (pc' := 18) (lv' := [(2, .int (yw x1)), (0, .ref v0), (1, .int (yw v1))]) (st' := [.ref v0]) rfl ?_
    refine xZ.k_gJ (me := xm46) hP_46 rfl (fun x3 => ?_)
    refine xZ.calls (κ := oJ) (av := [.int (yw x3)]) (rest := []) (st' := fun x4 => [.int (yw x4)]) (me := xm46) hP_46 rfl rfl rfl (Nat.le_of_ble_eq_true rfl) (by decide) hP_47 (Nat.le_of_ble_eq_true rfl) (fun _ => rfl) (k_f_Days_weekOf O f (d + 0) x3 M1) (fun x4 M2 => ?_)
    refine xZ.adv (me := xm46) hP_46 3 (pc' := 27) (lv' := [(2, .int (yw x1)), (0, .ref v0), (1, .int (yw v1))]) (st' := [.ref v0, .int ((yw x4) - (yw x1))]) rfl ?_
    refine xZ.eqs (lv2 := [(2, .int (yw x1)), (0, .ref v0), (1, .int (yw v1))]) (st2 := [.ref v0, .int (yw (x4 - x1))]) rfl (by simp only [yl_lit, yL_lit, yw_add, yw_sub, yw_mul, yw_neg, yl_add, yl_sub, yl_mul, cj_and, cj_or, cj_xor, cj_shl, cj_shr, cj_ushr, cj_div, cj_i2c, cj_i2b, cj_dc, ck_and, ck_or, ck_xor, ck_shl, ck_shr, ck_ushr, ck_i2l, ck_l2i, ck_cmp]) ?_
    refine xZ.k_gJ (me := xm46) hP_46 rfl (fun x5 => ?_)
    refine xZ.calls (κ := oJ) (av := [.int (yw (x4 - x1)), .int (yw x5)]) (rest := []) (st' := fun x6 => [.int (yw x6)]) (me := xm46) hP_46 rfl rfl rfl (Nat.le_of_ble_eq_true rfl) (by decide) hP_250 (Nat.le_of_ble_eq_true rfl) (fun _ => rfl) (k_f_Math_floorMod O f (d + 0) (x4 - x1) x5 M2) (fun x6 M3 => ?_)
    exact xZ.sub (xsc (.tail _ (.head _)) (xsc (.tail _ (.tail _ (.head _))) (xsc (.head _) xsn))) (show ([2, 0, 1] : List Nat).Nodup from by decide) (k_f_Rule_nextByWeeks_33 O f d v0 v1 x1 x6 M3)
  · skip
    refine xZ.adv (me := xm46) hP_46 2 (pc' := 33) (lv' := [(2, .int (yw x1)), (0, .ref v0), (1, .int (yw v1))]) (st' := [.int (0 : Int32)]) rfl ?_
    refine xZ.eqs (lv2 := [(2, .int (yw x1)), (0, .ref v0), (1, .int (yw v1))]) (st2 := [.int (yw 0)]) rfl (by simp only [yl_lit, yL_lit, yw_add, yw_sub, yw_mul, yw_neg, yl_add, yl_sub, yl_mul, cj_and, cj_or, cj_xor, cj_shl, cj_shr, cj_ushr, cj_div, cj_i2c, cj_i2b, cj_dc, ck_and, ck_or, ck_xor, ck_shl, ck_shr, ck_ushr, ck_i2l, ck_l2i, ck_cmp]) ?_
    exact xZ.sub (xsc (.tail _ (.head _)) (xsc (.tail _ (.tail _ (.head _))) (xsc (.head _) xsn))) (show ([2, 0, 1] : List Nat).Nodup from by decide) (k_f_Rule_nextByWeeks_33 O f d v0 v1 x1 0 M1)
