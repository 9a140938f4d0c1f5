/-! ===== texts ===== -/
def f_Person_workFrom_93 (O : Nat → Option va_E) (f : Nat) (K6 : Nat → Nat → Int → Int → Int → xM → Option (Int × xM)) (v0 : Nat) (v1 : Nat) (v3 : Int) (v4 : Int) (v5 : Int) (v7 : Int) (s0 : Int) (M : xM) : Option (Int × xM) :=
  (isO O M v1 11).bind fun _ =>
  xcl (f_Zone_nextSwitch O f v1 v4 M) fun x1 M1 =>
  xcl (f_Math_min O f ((v4 + s0) - v7) x1 M1) fun x2 M2 =>
  K6 v0 v1 v3 x2 (v5 + 1) M2
set_option maxRecDepth 20000 in
theorem k_f_Person_workFrom_93 (O : Nat → Option va_E) (f d : Nat) (K6 : Nat → Nat → Int → Int → Int → xM → Option (Int × xM)) (hK6 : ∀ (v0 : Nat) (v1 : Nat) (v3 : Int) (v4 : Int) (v5 : Int) M, xZ oJ O (d + 4) 175 6 [(0, .ref v0), (1, .ref v1), (3, .int (yw v3)), (4, .int (yw v4)), (5, .int (yw v5))] [] M (K6 v0 v1 v3 v4 v5 M)) (v0 : Nat) (v1 : Nat) (v3 : Int) (v4 : Int) (v5 : Int) (v7 : Int) (s0 : Int) (M : xM) : xZ oJ O (d + 4) 175 93 [(0, .ref v0), (1, .ref v1), (3, .int (yw v3)), (4, .int (yw v4)), (5, .int (yw v5)), (7, .int (yw v7))] [.int (yw s0)] M (f_Person_workFrom_93 O f K6 v0 v1 v3 v4 v5 v7 s0 M) := by
  unfold f_Person_workFrom_93
  refine xZ.adv (me := xm175) hP_175 8 (pc' := 106) (lv' := [(8, .int (yw s0)), (0, .ref v0), (1, .ref v1), (3, .int (yw v3)), (4, .int (yw v4)), (5, .int (yw v5)), (7, .int (yw v7))]) (st' := [.int (yw v4), .ref v1, .int (((yw v4) + (yw s0)) - (yw v7))]) rfl ?_
  refine xZ.eqs (lv2 := [(8, .int (yw s0)), (0, .ref v0), (1, .ref v1), (3, .int (yw v3)), (4, .int (yw v4)), (5, .int (yw v5)), (7, .int (yw v7))]) (st2 := [.int (yw v4), .ref v1, .int (yw ((v4 + s0) - v7))]) rfl (by simp only [yl_lit, yL_lit, yw_add, yw_sub, yw_mul, yw_neg, yl_add, yl_sub, yl_mul, cj_and, cj_or, cj_xor, cj_shl, cj_shr, cj_ushr, cj_div, cj_i2c, cj_i2b, cj_dc, ck_and, ck_or, ck_xor, ck_shl, ck_shr, ck_ushr, ck_i2l, ck_l2i, ck_cmp]) ?_
  refine xZ.callv (κ := oJ) (av := [.int (yw v4)]) (rest := [.int (yw ((v4 + s0) - v7))]) (st' := fun x1 => [.int (yw x1), .int (yw ((v4 + s0) - v7))]) (k0 := v1) (me := xm175) hP_175 rfl (Or.inl rfl) ⟨rfl, by decide⟩ rfl rfl (Nat.le_of_ble_eq_true rfl) (by decide) hP_177 (Nat.le_of_ble_eq_true rfl) (fun _ => rfl) (k_f_Zone_nextSwitch O f (d + 1) v1 v4 M) (fun x1 M1 => ?_)
  refine xZ.calls (κ := oJ) (av := [.int (yw ((v4 + s0) - v7)), .int (yw x1)]) (rest := []) (st' := fun x2 => [.int (yw x2)]) (me := xm175) hP_175 rfl rfl rfl (Nat.le_of_ble_eq_true rfl) (by decide) hP_248 (Nat.le_of_ble_eq_true rfl) (fun _ => rfl) (k_f_Math_min O f (d + 3) ((v4 + s0) - v7) x1 M1) (fun x2 M2 => ?_)
  refine xZ.adv (me := xm175) hP_175 3 (pc' := 6) (lv' := [(5, .int ((yw v5) + (1 : Int32))), (4, .int (yw x2)), (8, .int (yw s0)), (0, .ref v0), (1, .ref v1), (3, .int (yw v3)), (7, .int (yw v7))]) (st' := []) rfl ?_
  refine xZ.eqs (lv2 := [(5, .int (yw (v5 + 1))), (4, .int (yw x2)), (8, .int (yw s0)), (0, .ref v0), (1, .ref v1), (3, .int (yw v3)), (7, .int (yw v7))]) (st2 := []) (by simp only [yl_lit, yL_lit, yw_add, yw_sub, yw_mul, yw_neg, yl_add, yl_sub, yl_mul, cj_and, cj_or, cj_xor, cj_shl, cj_shr, cj_ushr, cj_div, cj_i2c, cj_i2b, cj_dc, ck_and, ck_or, ck_xor, ck_shl, ck_shr, ck_ushr, ck_i2l, ck_l2i, ck_cmp]) rfl ?_
  exact xZ.sub (xsc (.tail _ (.tail _ (.tail _ (.head _)))) (xsc (.tail _ (.tail _ (.tail _ (.tail _ (.head _))))) (xsc (.tail _ (.tail _ (.tail _ (.tail _ (.tail _ (.head _)))))) (xsc (.tail _ (.head _)) (xsc (.head _) xsn))))) (show ([5, 4, 8, 0, 1, 3, 7] : List Nat).Nodup from by decide) (hK6 v0 v1 v3 x2 (v5 + 1) M2)
def f_Person_workFrom_74 (O : Nat → Option va_E) (f : Nat) (K6 : Nat → Nat → Int → Int → Int → xM → Option (Int × xM)) (v0 : Nat) (v1 : Nat) (v3 : Int) (v4 : Int) (v5 : Int) (v7 : Int) (M : xM) : Option (Int × xM) :=
  (gJ O M v0 6 2).bind fun x1 =>
  if yw x1 ≤ yw v7 then (
    f_Person_workFrom_93 O f K6 v0 v1 v3 v4 v5 v7 1440 M
  ) else
  (gJ O M v0 6 2).bind fun x2 =>
  f_Person_workFrom_93 O f K6 v0 v1 v3 v4 v5 v7 x2 M
set_option maxRecDepth 20000 in
theorem k_f_Person_workFrom_74 (O : Nat → Option va_E) (f d : Nat) (K6 : Nat → Nat → Int → Int → Int → xM → Option (Int × xM)) (hK6 : ∀ (v0 : Nat) (v1 : Nat) (v3 : Int) (v4 : Int) (v5 : Int) M, xZ oJ O (d + 4) 175 6 [(0, .ref v0), (1, .ref v1), (3, .int (yw v3)), (4, .int (yw v4)), (5, .int (yw v5))] [] M (K6 v0 v1 v3 v4 v5 M)) (v0 : Nat) (v1 : Nat) (v3 : Int) (v4 : Int) (v5 : Int) (v7 : Int) (M : xM) : xZ oJ O (d + 4) 175 74 [(0, .ref v0), (1, .ref v1), (3, .int (yw v3)), (4, .int (yw v4)), (5, .int (yw v5)), (7, .int (yw v7))] [] M (f_Person_workFrom_74 O f K6 v0 v1 v3 v4 v5 v7 M) := by
  unfold f_Person_workFrom_74
  refine xZ.adv (me := xm175) hP_175 2 (pc' := 77) (lv' := [(0, .ref v0), (1, .ref v1), (3, .int (yw v3)), (4, .int (yw v4)), (5, .int (yw v5)), (7, .int (yw v7))]) (st' := [.ref v0, .int (yw v7)]) rfl ?_
  refine xZ.k_gJ (me := xm175) hP_175 rfl (fun x1 => ?_)
  refine xZ.jc_ge (me := xm175) hP_175 rfl (fun h1 => ?_) (fun h1 => ?_)
  · skip
    refine xZ.adv (me := xm175) hP_175 1 (pc' := 93) (lv' := [(0, .ref v0), (1, .ref v1), (3, .int (yw v3)), (4, .int (yw v4)), (5, .int (yw v5)), (7, .int (yw v7))]) (st' := [.int (1440 : Int32)]) rfl ?_
    refine xZ.eqs (lv2 := [(0, .ref v0), (1, .ref v1), (3, .int (yw v3)), (4, .int (yw v4)), (5, .int (yw v5)), (7, .int (yw v7))]) (st2 := [.int (yw 1440)]) rfl (by simp only [yl_lit, yL_lit, yw_add, yw_sub, yw_mul, yw_neg, yl_add, yl_sub, yl_mul, cj_and, cj_or, cj_xor, cj_shl, cj_shr, cj_ushr, cj_div, cj_i2c, cj_i2b, cj_dc, ck_and, ck_or, ck_xor, ck_shl, ck_shr, ck_ushr, ck_i2l, ck_l2i, ck_cmp]) ?_
    exact (k_f_Person_workFrom_93 O f d K6 hK6 v0 v1 v3 v4 v5 v7 1440 M)
  · skip
    refine xZ.adv (me := xm175) hP_175 1 (pc' := 84) (lv' := [(0, .ref v0), (1, .ref v1), (3, .int (yw v3)), (4, .int (yw v4)), (5, .int (yw v5)), (7, .int (yw v7))]) (st' := [.ref v0]) rfl ?_
    refine xZ.k_gJ (me := xm175) hP_175 rfl (fun x2 => ?_)
    refine xZ.adv (me := xm175) hP_175 1 (pc' := 93) (lv' := [(0, .ref v0), (1, .ref v1), (3, .int (yw v3)), (4, .int (yw v4)), (5, .int (yw v5)), (7, .int (yw v7))]) (st' := [.int (yw x2)]) rfl ?_
    exact (k_f_Person_workFrom_93 O f d K6 hK6 v0 v1 v3 v4 v5 v7 x2 M)
def f_Person_workFrom_6 (O : Nat → Option va_E) (f : Nat) : Nat → Nat → Nat → Int → Int → Int → xM → Option (Int × xM)
  | 0, _, _, _, _, _, _ => none
  | n + 1, v0, v1, v3, v4, v5, M =>
    if yw 20160 < yw v5 then (
      some (v3, M)
    ) else
    if yw v3 ≤ yw v4 then (
      some (v3, M)
    ) else
    (isO O M v1 11).bind fun _ =>
    xcl (f_Zone_localOf O f v1 v4 M) fun x1 M1 =>
    xcl (f_Math_floorMod O f x1 1440 M1) fun x2 M2 =>
    (gJ O M2 v0 6 2).bind fun x3 =>
    if yw x2 < yw x3 then (
      f_Person_workFrom_74 O f (f_Person_workFrom_6 O f n) v0 v1 v3 v4 v5 x2 M2
    ) else
    (gJ O M2 v0 6 3).bind fun x4 =>
    if yw x4 ≤ yw x2 then (
      f_Person_workFrom_74 O f (f_Person_workFrom_6 O f n) v0 v1 v3 v4 v5 x2 M2
    ) else
    xcl (f_Math_floorDiv O f x1 1440 M2) fun x5 M3 =>
    (isO O M3 v0 6).bind fun _ =>
    xcl (f_Person_isWorkDay O f v0 x5 M3) fun x6 M4 =>
    if yw x6 = yw 0 then (
      f_Person_workFrom_74 O f (f_Person_workFrom_6 O f n) v0 v1 v3 v4 v5 x2 M4
    ) else
    some (v4, M4)
set_option maxRecDepth 20000 in
theorem k_f_Person_workFrom_6 (O : Nat → Option va_E) (f d : Nat) : ∀ (n : Nat) (v0 : Nat) (v1 : Nat) (v3 : Int) (v4 : Int) (v5 : Int) (M : xM), xZ oJ O (d + 4) 175 6 [(0, .ref v0), (1, .ref v1), (3, .int (yw v3)), (4, .int (yw v4)), (5, .int (yw v5))] [] M (f_Person_workFrom_6 O f n v0 v1 v3 v4 v5 M) := by
  intro n
  induction n with
  | zero =>
    intro v0 v1 v3 v4 v5 M
    exact xZ.no
  | succ n ih =>
    intro v0 v1 v3 v4 v5 M
    unfold f_Person_workFrom_6
    refine xZ.adv (me := xm175) hP_175 2 (pc' := 11) (lv' := [(0, .ref v0), (1, .ref v1), (3, .int (yw v3)), (4, .int (yw v4)), (5, .int (yw v5))]) (st' := [.int (20160 : Int32), .int (yw v5)]) rfl ?_
    refine xZ.eqs (lv2 := [(0, .ref v0), (1, .ref v1), (3, .int (yw v3)), (4, .int (yw v4)), (5, .int (yw v5))]) (st2 := [.int (yw 20160), .int (yw v5)]) rfl (by simp only [yl_lit, yL_lit, yw_add, yw_sub, yw_mul, yw_neg, yl_add, yl_sub, yl_mul, cj_and, cj_or, cj_xor, cj_shl, cj_shr, cj_ushr, cj_div, cj_i2c, cj_i2b, cj_dc, ck_and, ck_or, ck_xor, ck_shl, ck_shr, ck_ushr, ck_i2l, ck_l2i, ck_cmp]) ?_
    refine xZ.jc_gt (me := xm175) hP_175 rfl (fun h1 => ?_) (fun h1 => ?_)
    · skip
      refine xZ.adv (me := xm175) hP_175 1 (pc' := 121) (lv' := [(0, .ref v0), (1, .ref v1), (3, .int (yw v3)), (4, .int (yw v4)), (5, .int (yw v5))]) (st' := [.int (yw v3)]) rfl ?_
      exact xZ.jreti (me := xm175) hP_175 rfl rfl
    · skip
      refine xZ.adv (me := xm175) hP_175 2 (pc' := 17) (lv' := [(0, .ref v0), (1, .ref v1), (3, .int (yw v3)), (4, .int (yw v4)), (5, .int (yw v5))]) (st' := [.int (yw v3), .int (yw v4)]) rfl ?_
      refine xZ.jc_ge (me := xm175) hP_175 rfl (fun h2 => ?_) (fun h2 => ?_)
      · skip
        refine xZ.adv (me := xm175) hP_175 1 (pc' := 121) (lv' := [(0, .ref v0), (1, .ref v1), (3, .int (yw v3)), (4, .int (yw v4)), (5, .int (yw v5))]) (st' := [.int (yw v3)]) rfl ?_
        exact xZ.jreti (me := xm175) hP_175 rfl rfl
      · skip
        refine xZ.adv (me := xm175) hP_175 2 (pc' := 23) (lv' := [(0, .ref v0), (1, .ref v1), (3, .int (yw v3)), (4, .int (yw v4)), (5, .int (yw v5))]) (st' := [.int (yw v4), .ref v1]) rfl ?_
        refine xZ.callv (κ := oJ) (av := [.int (yw v4)]) (rest := []) (st' := fun x1 => [.int (yw x1)]) (k0 := v1) (me := xm175) hP_175 rfl (Or.inl rfl) ⟨rfl, by decide⟩ rfl rfl (Nat.le_of_ble_eq_true rfl) (by decide) hP_135 (Nat.le_of_ble_eq_true rfl) (fun _ => rfl) (k_f_Zone_localOf O f (d + 0) v1 v4 M) (fun x1 M1 => ?_)
        refine xZ.adv (me := xm175) hP_175 3 (pc' := 33) (lv' := [(6, .int (yw x1)), (0, .ref v0), (1, .ref v1), (3, .int (yw v3)), (4, .int (yw v4)), (5, .int (yw v5))]) (st' := [.int (1440 : Int32), .int (yw x1)]) rfl ?_
        refine xZ.eqs (lv2 := [(6, .int (yw x1)), (0, .ref v0), (1, .ref v1), (3, .int (yw v3)), (4, .int (yw v4)), (5, .int (yw v5))]) (st2 := [.int (yw 1440), .int (yw x1)]) rfl (by simp only [yl_lit, yL_lit, yw_add, yw_sub, yw_mul, yw_neg, yl_add, yl_sub, yl_mul, cj_and, cj_or, cj_xor, cj_shl, cj_shr, cj_ushr, cj_div, cj_i2c, cj_i2b, cj_dc, ck_and, ck_or, ck_xor, ck_shl, ck_shr, ck_ushr, ck_i2l, ck_l2i, ck_cmp]) ?_
        refine xZ.calls (κ := oJ) (av := [.int (yw x1), .int (yw 1440)]) (rest := []) (st' := fun x2 => [.int (yw x2)]) (me := xm175) hP_175 rfl rfl rfl (Nat.le_of_ble_eq_true rfl) (by decide) hP_250 (Nat.le_of_ble_eq_true rfl) (fun _ => rfl) (k_f_Math_floorMod O f (d + 3) x1 1440 M1) (fun x2 M2 => ?_)
        refine xZ.adv (me := xm175) hP_175 3 (pc' := 41) (lv' := [(7, .int (yw x2)), (6, .int (yw x1)), (0, .ref v0), (1, .ref v1), (3, .int (yw v3)), (4, .int (yw v4)), (5, .int (yw v5))]) (st' := [.ref v0, .int (yw x2)]) rfl ?_
        refine xZ.k_gJ (me := xm175) hP_175 rfl (fun x3 => ?_)
        refine xZ.jc_lt (me := xm175) hP_175 rfl (fun h3 => ?_) (fun h3 => ?_)
        · skip
          exact xZ.sub (xsc (.tail _ (.tail _ (.head _))) (xsc (.tail _ (.tail _ (.tail _ (.head _)))) (xsc (.tail _ (.tail _ (.tail _ (.tail _ (.head _))))) (xsc (.tail _ (.tail _ (.tail _ (.tail _ (.tail _ (.head _)))))) (xsc (.tail _ (.tail _ (.tail _ (.tail _ (.tail _ (.tail _ (.head _))))))) (xsc (.head _) xsn)))))) (show ([7, 6, 0, 1, 3, 4, 5] : List Nat).Nodup from by decide) (k_f_Person_workFrom_74 O f d (f_Person_workFrom_6 O f n) ih v0 v1 v3 v4 v5 x2 M2)
        · skip
          refine xZ.adv (me := xm175) hP_175 2 (pc' := 50) (lv' := [(7, .int (yw x2)), (6, .int (yw x1)), (0, .ref v0), (1, .ref v1), (3, .int (yw v3)), (4, .int (yw v4)), (5, .int (yw v5))]) (st' := [.ref v0, .int (yw x2)]) rfl ?_
          refine xZ.k_gJ (me := xm175) hP_175 rfl (fun x4 => ?_)
          refine xZ.jc_ge (me := xm175) hP_175 rfl (fun h4 => ?_) (fun h4 => ?_)
          · skip
            exact xZ.sub (xsc (.tail _ (.tail _ (.head _))) (xsc (.tail _ (.tail _ (.tail _ (.head _)))) (xsc (.tail _ (.tail _ (.tail _ (.tail _ (.head _))))) (xsc (.tail _ (.tail _ (.tail _ (.tail _ (.tail _ (.head _)))))) (xsc (.tail _ (.tail _ (.tail _ (.tail _ (.tail _ (.tail _ (.head _))))))) (xsc (.head _) xsn)))))) (show ([7, 6, 0, 1, 3, 4, 5] : List Nat).Nodup from by decide) (k_f_Person_workFrom_74 O f d (f_Person_workFrom_6 O f n) ih v0 v1 v3 v4 v5 x2 M2)
          · skip
            refine xZ.adv (me := xm175) hP_175 3 (pc' := 62) (lv' := [(7, .int (yw x2)), (6, .int (yw x1)), (0, .ref v0), (1, .ref v1), (3, .int (yw v3)), (4, .int (yw v4)), (5, .int (yw v5))]) (st' := [.int (1440 : Int32), .int (yw x1), .ref v0]) rfl ?_
            refine xZ.eqs (lv2 := [(7, .int (yw x2)), (6, .int (yw x1)), (0, .ref v0), (1, .ref v1), (3, .int (yw v3)), (4, .int (yw v4)), (5, .int (yw v5))]) (st2 := [.int (yw 1440), .int (yw x1), .ref v0]) rfl (by simp only [yl_lit, yL_lit, yw_add, yw_sub, yw_mul, yw_neg, yl_add, yl_sub, yl_mul, cj_and, cj_or, cj_xor, cj_shl, cj_shr, cj_ushr, cj_div, cj_i2c, cj_i2b, cj_dc, ck_and, ck_or, ck_xor, ck_shl, ck_shr, ck_ushr, ck_i2l, ck_l2i, ck_cmp]) ?_
            refine xZ.calls (κ := oJ) (av := [.int (yw x1), .int (yw 1440)]) (rest := [.ref v0]) (st' := fun x5 => [.int (yw x5), .ref v0]) (me := xm175) hP_175 rfl rfl rfl (Nat.le_of_ble_eq_true rfl) (by decide) hP_251 (Nat.le_of_ble_eq_true rfl) (fun _ => rfl) (k_f_Math_floorDiv O f (d + 3) x1 1440 M2) (fun x5 M3 => ?_)
            refine xZ.callv (κ := oJ) (av := [.int (yw x5)]) (rest := []) (st' := fun x6 => [.int (yw x6)]) (k0 := v0) (me := xm175) hP_175 rfl (Or.inl rfl) ⟨rfl, by decide⟩ rfl rfl (Nat.le_of_ble_eq_true rfl) (by decide) hP_176 (Nat.le_of_ble_eq_true rfl) (fun _ => rfl) (k_f_Person_isWorkDay O f (d + 2) v0 x5 M3) (fun x6 M4 => ?_)
            refine xZ.jf_eq (me := xm175) hP_175 rfl (fun h5 => ?_) (fun h5 => ?_)
            · skip
              exact xZ.sub (xsc (.tail _ (.tail _ (.head _))) (xsc (.tail _ (.tail _ (.tail _ (.head _)))) (xsc (.tail _ (.tail _ (.tail _ (.tail _ (.head _))))) (xsc (.tail _ (.tail _ (.tail _ (.tail _ (.tail _ (.head _)))))) (xsc (.tail _ (.tail _ (.tail _ (.tail _ (.tail _ (.tail _ (.head _))))))) (xsc (.head _) xsn)))))) (show ([7, 6, 0, 1, 3, 4, 5] : List Nat).Nodup from by decide) (k_f_Person_workFrom_74 O f d (f_Person_workFrom_6 O f n) ih v0 v1 v3 v4 v5 x2 M4)
            · skip
              refine xZ.adv (me := xm175) hP_175 1 (pc' := 73) (lv' := [(7, .int (yw x2)), (6, .int (yw x1)), (0, .ref v0), (1, .ref v1), (3, .int (yw v3)), (4, .int (yw v4)), (5, .int (yw v5))]) (st' := [.int (yw v4)]) rfl ?_
              exact xZ.jreti (me := xm175) hP_175 rfl rfl
def f_Person_workFrom (O : Nat → Option va_E) (f : Nat) (v0 : Nat) (v1 : Nat) (v2 : Int) (v3 : Int) (M : xM) : Option (Int × xM) :=
  f_Person_workFrom_6 O f f v0 v1 v3 v2 0 M
set_option maxRecDepth 20000 in
theorem k_f_Person_workFrom (O : Nat → Option va_E) (f d : Nat) (v0 : Nat) (v1 : Nat) (v2 : Int) (v3 : Int) (M : xM) : xZ oJ O (d + 4) 175 0 [(0, .ref v0), (1, .ref v1), (2, .int (yw v2)), (3, .int (yw v3))] [] M (f_Person_workFrom O f v0 v1 v2 v3 M) := by
  unfold f_Person_workFrom
  refine xZ.adv (me := xm175) hP_175 4 (pc' := 6) (lv' := [(5, .int (0 : Int32)), (4, .int (yw v2)), (0, .ref v0), (1, .ref v1), (2, .int (yw v2)), (3, .int (yw v3))]) (st' := []) rfl ?_
  refine xZ.eqs (lv2 := [(5, .int (yw 0)), (4, .int (yw v2)), (0, .ref v0), (1, .ref v1), (2, .int (yw v2)), (3, .int (yw v3))]) (st2 := []) (by simp only [yl_lit, yL_lit, yw_add, yw_sub, yw_mul, yw_neg, yl_add, yl_sub, yl_mul, cj_and, cj_or, cj_xor, cj_shl, cj_shr, cj_ushr, cj_div, cj_i2c, cj_i2b, cj_dc, ck_and, ck_or, ck_xor, ck_shl, ck_shr, ck_ushr, ck_i2l, ck_l2i, ck_cmp]) rfl ?_
  exact xZ.sub (xsc (.tail _ (.tail _ (.head _))) (xsc (.tail _ (.tail _ (.tail _ (.head _)))) (xsc (.tail _ (.tail _ (.tail _ (.tail _ (.tail _ (.head _)))))) (xsc (.tail _ (.head _)) (xsc (.head _) xsn))))) (show ([5, 4, 0, 1, 2, 3] : List Nat).Nodup from by decide) (k_f_Person_workFrom_6 O f d f v0 v1 v3 v2 0 M)
def f_Dates_offFrom_4 (O : Nat → Option va_E) (f : Nat) : Nat → Nat → Int → Int → xM → Option (Int × xM)
  | 0, _, _, _, _ => none
  | n + 1, v0, v2, v3, M =>
    (gJ O M v0 2 0).bind fun x1 =>
    if yw x1 ≤ yw v3 then (
      some (v2, M)
    ) else
    (isO O M v0 2).bind fun _ =>
    xcl (f_Dates_beginAt O f v0 v3 M) fun x2 M1 =>
    if yw v2 < yw x2 then (
      some (v2, M1)
    ) else
    (isO O M1 v0 2).bind fun _ =>
    xcl (f_Dates_endAt O f v0 v3 M1) fun x3 M2 =>
    xcl (f_Math_max O f v2 x3 M2) fun x4 M3 =>
    f_Dates_offFrom_4 O f n v0 x4 (v3 + 1) M3
set_option maxRecDepth 20000 in
theorem k_f_Dates_offFrom_4 (O : Nat → Option va_E) (f d : Nat) : ∀ (n : Nat) (v0 : Nat) (v2 : Int) (v3 : Int) (M : xM), xZ oJ O (d + 3) 178 4 [(0, .ref v0), (2, .int (yw v2)), (3, .int (yw v3))] [] M (f_Dates_offFrom_4 O f n v0 v2 v3 M) := by
  intro n
  induction n with
  | zero =>
    intro v0 v2 v3 M
    exact xZ.no
  | succ n ih =>
    intro v0 v2 v3 M
    unfold f_Dates_offFrom_4
    refine xZ.adv (me := xm178) hP_178 2 (pc' := 6) (lv' := [(0, .ref v0), (2, .int (yw v2)), (3, .int (yw v3))]) (st' := [.ref v0, .int (yw v3)]) rfl ?_
    refine xZ.k_gJ (me := xm178) hP_178 rfl (fun x1 => ?_)
    refine xZ.jc_ge (me := xm178) hP_178 rfl (fun h1 => ?_) (fun h1 => ?_)
    · skip
      refine xZ.adv (me := xm178) hP_178 1 (pc' := 38) (lv' := [(0, .ref v0), (2, .int (yw v2)), (3, .int (yw v3))]) (st' := [.int (yw v2)]) rfl ?_
      exact xZ.jreti (me := xm178) hP_178 rfl rfl
    · skip
      refine xZ.adv (me := xm178) hP_178 2 (pc' := 14) (lv' := [(0, .ref v0), (2, .int (yw v2)), (3, .int (yw v3))]) (st' := [.int (yw v3), .ref v0]) rfl ?_
      refine xZ.callv (κ := oJ) (av := [.int (yw v3)]) (rest := []) (st' := fun x2 => [.int (yw x2)]) (k0 := v0) (me := xm178) hP_178 rfl (Or.inl rfl) ⟨rfl, by decide⟩ rfl rfl (Nat.le_of_ble_eq_true rfl) (by decide) hP_171 (Nat.le_of_ble_eq_true rfl) (fun _ => rfl) (k_f_Dates_beginAt O f (d + 1) v0 v3 M) (fun x2 M1 => ?_)
      refine xZ.adv (me := xm178) hP_178 1 (pc' := 18) (lv' := [(0, .ref v0), (2, .int (yw v2)), (3, .int (yw v3))]) (st' := [.int (yw v2), .int (yw x2)]) rfl ?_
      refine xZ.jc_gt (me := xm178) hP_178 rfl (fun h2 => ?_) (fun h2 => ?_)
      · skip
        refine xZ.adv (me := xm178) hP_178 1 (pc' := 38) (lv' := [(0, .ref v0), (2, .int (yw v2)), (3, .int (yw v3))]) (st' := [.int (yw v2)]) rfl ?_
        exact xZ.jreti (me := xm178) hP_178 rfl rfl
      · skip
        refine xZ.adv (me := xm178) hP_178 3 (pc' := 24) (lv' := [(0, .ref v0), (2, .int (yw v2)), (3, .int (yw v3))]) (st' := [.int (yw v3), .ref v0, .int (yw v2)]) rfl ?_
        refine xZ.callv (κ := oJ) (av := [.int (yw v3)]) (rest := [.int (yw v2)]) (st' := fun x3 => [.int (yw x3), .int (yw v2)]) (k0 := v0) (me := xm178) hP_178 rfl (Or.inl rfl) ⟨rfl, by decide⟩ rfl rfl (Nat.le_of_ble_eq_true rfl) (by decide) hP_170 (Nat.le_of_ble_eq_true rfl) (fun _ => rfl) (k_f_Dates_endAt O f (d + 0) v0 v3 M1) (fun x3 M2 => ?_)
        refine xZ.calls (κ := oJ) (av := [.int (yw v2), .int (yw x3)]) (rest := []) (st' := fun x4 => [.int (yw x4)]) (me := xm178) hP_178 rfl rfl rfl (Nat.le_of_ble_eq_true rfl) (by decide) hP_247 (Nat.le_of_ble_eq_true rfl) (fun _ => rfl) (k_f_Math_max O f (d + 2) v2 x3 M2) (fun x4 M3 => ?_)
        refine xZ.adv (me := xm178) hP_178 3 (pc' := 4) (lv' := [(3, .int ((yw v3) + (1 : Int32))), (2, .int (yw x4)), (0, .ref v0)]) (st' := []) rfl ?_
        refine xZ.eqs (lv2 := [(3, .int (yw (v3 + 1))), (2, .int (yw x4)), (0, .ref v0)]) (st2 := []) (by simp only [yl_lit, yL_lit, yw_add, yw_sub, yw_mul, yw_neg, yl_add, yl_sub, yl_mul, cj_and, cj_or, cj_xor, cj_shl, cj_shr, cj_ushr, cj_div, cj_i2c, cj_i2b, cj_dc, ck_and, ck_or, ck_xor, ck_shl, ck_shr, ck_ushr, ck_i2l, ck_l2i, ck_cmp]) rfl ?_
        exact xZ.sub (xsc (.tail _ (.tail _ (.head _))) (xsc (.tail _ (.head _)) (xsc (.head _) xsn))) (show ([3, 2, 0] : List Nat).Nodup from by decide) (ih v0 x4 (v3 + 1) M3)
def f_Dates_offFrom (O : Nat → Option va_E) (f : Nat) (v0 : Nat) (v1 : Int) (M : xM) : Option (Int × xM) :=
  f_Dates_offFrom_4 O f f v0 v1 0 M
set_option maxRecDepth 20000 in
theorem k_f_Dates_offFrom (O : Nat → Option va_E) (f d : Nat) (v0 : Nat) (v1 : Int) (M : xM) : xZ oJ O (d + 3) 178 0 [(0, .ref v0), (1, .int (yw v1))] [] M (f_Dates_offFrom O f v0 v1 M) := by
  unfold f_Dates_offFrom
  refine xZ.adv (me := xm178) hP_178 4 (pc' := 4) (lv' := [(3, .int (0 : Int32)), (2, .int (yw v1)), (0, .ref v0), (1, .int (yw v1))]) (st' := []) rfl ?_
  refine xZ.eqs (lv2 := [(3, .int (yw 0)), (2, .int (yw v1)), (0, .ref v0), (1, .int (yw v1))]) (st2 := []) (by simp only [yl_lit, yL_lit, yw_add, yw_sub, yw_mul, yw_neg, yl_add, yl_sub, yl_mul, cj_and, cj_or, cj_xor, cj_shl, cj_shr, cj_ushr, cj_div, cj_i2c, cj_i2b, cj_dc, ck_and, ck_or, ck_xor, ck_shl, ck_shr, ck_ushr, ck_i2l, ck_l2i, ck_cmp]) rfl ?_
  exact xZ.sub (xsc (.tail _ (.tail _ (.head _))) (xsc (.tail _ (.head _)) (xsc (.head _) xsn))) (show ([3, 2, 0, 1] : List Nat).Nodup from by decide) (k_f_Dates_offFrom_4 O f d f v0 v1 0 M)
def f_Person_idleFrom_6 (O : Nat → Option va_E) (f : Nat) : Nat → Nat → Nat → Int → Int → Int → xM → Option (Int × xM)
  | 0, _, _, _, _, _, _ => none
  | n + 1, v0, v1, v3, v4, v5, M =>
    if yw 20160 < yw v5 then (
      some (v3, M)
    ) else
    if yw v3 ≤ yw v4 then (
      some (v3, M)
    ) else
    (isO O M v1 11).bind fun _ =>
    xcl (f_Zone_localOf O f v1 v4 M) fun x1 M1 =>
    xcl (f_Math_floorMod O f x1 1440 M1) fun x2 M2 =>
    (gJ O M2 v0 6 2).bind fun x3 =>
    if yw x2 < yw x3 then (
      some (v4, M2)
    ) else
    (gJ O M2 v0 6 3).bind fun x4 =>
    if yw x4 ≤ yw x2 then (
      some (v4, M2)
    ) else
    xcl (f_Math_floorDiv O f x1 1440 M2) fun x5 M3 =>
    (isO O M3 v0 6).bind fun _ =>
    xcl (f_Person_isWorkDay O f v0 x5 M3) fun x6 M4 =>
    if yw x6 = yw 0 then (
      some (v4, M4)
    ) else
    (gJ O M4 v0 6 3).bind fun x7 =>
    (isO O M4 v1 11).bind fun _ =>
    xcl (f_Zone_nextSwitch O f v1 v4 M4) fun x8 M5 =>
    xcl (f_Math_min O f ((v4 + x7) - x2) x8 M5) fun x9 M6 =>
    f_Person_idleFrom_6 O f n v0 v1 v3 x9 (v5 + 1) M6
set_option maxRecDepth 20000 in
theorem k_f_Person_idleFrom_6 (O : Nat → Option va_E) (f d : Nat) : ∀ (n : Nat) (v0 : Nat) (v1 : Nat) (v3 : Int) (v4 : Int) (v5 : Int) (M : xM), xZ oJ O (d + 4) 179 6 [(0, .ref v0), (1, .ref v1), (3, .int (yw v3)), (4, .int (yw v4)), (5, .int (yw v5))] [] M (f_Person_idleFrom_6 O f n v0 v1 v3 v4 v5 M) := by
  intro n
  induction n with
  | zero =>
    intro v0 v1 v3 v4 v5 M
    exact xZ.no
  | succ n ih =>
    intro v0 v1 v3 v4 v5 M
    unfold f_Person_idleFrom_6
    refine xZ.adv (me := xm179) hP_179 2 (pc' := 11) (lv' := [(0, .ref v0), (1, .ref v1), (3, .int (yw v3)), (4, .int (yw v4)), (5, .int (yw v5))]) (st' := [.int (20160 : Int32), .int (yw v5)]) rfl ?_
    refine xZ.eqs (lv2 := [(0, .ref v0), (1, .ref v1), (3, .int (yw v3)), (4, .int (yw v4)), (5, .int (yw v5))]) (st2 := [.int (yw 20160), .int (yw v5)]) rfl (by simp only [yl_lit, yL_lit, yw_add, yw_sub, yw_mul, yw_neg, yl_add, yl_sub, yl_mul, cj_and, cj_or, cj_xor, cj_shl, cj_shr, cj_ushr, cj_div, cj_i2c, cj_i2b, cj_dc, ck_and, ck_or, ck_xor, ck_shl, ck_shr, ck_ushr, ck_i2l, ck_l2i, ck_cmp]) ?_
    refine xZ.jc_gt (me := xm179) hP_179 rfl (fun h1 => ?_) (fun h1 => ?_)
    · skip
      refine xZ.adv (me := xm179) hP_179 1 (pc' := 102) (lv' := [(0, .ref v0), (1, .ref v1), (3, .int (yw v3)), (4, .int (yw v4)), (5, .int (yw v5))]) (st' := [.int (yw v3)]) rfl ?_
      exact xZ.jreti (me := xm179) hP_179 rfl rfl
    · skip
      refine xZ.adv (me := xm179) hP_179 2 (pc' := 17) (lv' := [(0, .ref v0), (1, .ref v1), (3, .int (yw v3)), (4, .int (yw v4)), (5, .int (yw v5))]) (st' := [.int (yw v3), .int (yw v4)]) rfl ?_
      refine xZ.jc_ge (me := xm179) hP_179 rfl (fun h2 => ?_) (fun h2 => ?_)
      · skip
        refine xZ.adv (me := xm179) hP_179 1 (pc' := 102) (lv' := [(0, .ref v0), (1, .ref v1), (3, .int (yw v3)), (4, .int (yw v4)), (5, .int (yw v5))]) (st' := [.int (yw v3)]) rfl ?_
        exact xZ.jreti (me := xm179) hP_179 rfl rfl
      · skip
        refine xZ.adv (me := xm179) hP_179 2 (pc' := 23) (lv' := [(0, .ref v0), (1, .ref v1), (3, .int (yw v3)), (4, .int (yw v4)), (5, .int (yw v5))]) (st' := [.int (yw v4), .ref v1]) rfl ?_
        refine xZ.callv (κ := oJ) (av := [.int (yw v4)]) (rest := []) (st' := fun x1 => [.int (yw x1)]) (k0 := v1) (me := xm179) hP_179 rfl (Or.inl rfl) ⟨rfl, by decide⟩ rfl rfl (Nat.le_of_ble_eq_true rfl) (by decide) hP_135 (Nat.le_of_ble_eq_true rfl) (fun _ => rfl) (k_f_Zone_localOf O f (d + 0) v1 v4 M) (fun x1 M1 => ?_)
        refine xZ.adv (me := xm179) hP_179 3 (pc' := 33) (lv' := [(6, .int (yw x1)), (0, .ref v0), (1, .ref v1), (3, .int (yw v3)), (4, .int (yw v4)), (5, .int (yw v5))]) (st' := [.int (1440 : Int32), .int (yw x1)]) rfl ?_
        refine xZ.eqs (lv2 := [(6, .int (yw x1)), (0, .ref v0), (1, .ref v1), (3, .int (yw v3)), (4, .int (yw v4)), (5, .int (yw v5))]) (st2 := [.int (yw 1440), .int (yw x1)]) rfl (by simp only [yl_lit, yL_lit, yw_add, yw_sub, yw_mul, yw_neg, yl_add, yl_sub, yl_mul, cj_and, cj_or, cj_xor, cj_shl, cj_shr, cj_ushr, cj_div, cj_i2c, cj_i2b, cj_dc, ck_and, ck_or, ck_xor, ck_shl, ck_shr, ck_ushr, ck_i2l, ck_l2i, ck_cmp]) ?_
        refine xZ.calls (κ := oJ) (av := [.int (yw x1), .int (yw 1440)]) (rest := []) (st' := fun x2 => [.int (yw x2)]) (me := xm179) hP_179 rfl rfl rfl (Nat.le_of_ble_eq_true rfl) (by decide) hP_250 (Nat.le_of_ble_eq_true rfl) (fun _ => rfl) (k_f_Math_floorMod O f (d + 3) x1 1440 M1) (fun x2 M2 => ?_)
        refine xZ.adv (me := xm179) hP_179 3 (pc' := 41) (lv' := [(7, .int (yw x2)), (6, .int (yw x1)), (0, .ref v0), (1, .ref v1), (3, .int (yw v3)), (4, .int (yw v4)), (5, .int (yw v5))]) (st' := [.ref v0, .int (yw x2)]) rfl ?_
        refine xZ.k_gJ (me := xm179) hP_179 rfl (fun x3 => ?_)
        refine xZ.jc_lt (me := xm179) hP_179 rfl (fun h3 => ?_) (fun h3 => ?_)
        · skip
          refine xZ.adv (me := xm179) hP_179 1 (pc' := 73) (lv' := [(7, .int (yw x2)), (6, .int (yw x1)), (0, .ref v0), (1, .ref v1), (3, .int (yw v3)), (4, .int (yw v4)), (5, .int (yw v5))]) (st' := [.int (yw v4)]) rfl ?_
          exact xZ.jreti (me := xm179) hP_179 rfl rfl
        · skip
          refine xZ.adv (me := xm179) hP_179 2 (pc' := 50) (lv' := [(7, .int (yw x2)), (6, .int (yw x1)), (0, .ref v0), (1, .ref v1), (3, .int (yw v3)), (4, .int (yw v4)), (5, .int (yw v5))]) (st' := [.ref v0, .int (yw x2)]) rfl ?_
          refine xZ.k_gJ (me := xm179) hP_179 rfl (fun x4 => ?_)
          refine xZ.jc_ge (me := xm179) hP_179 rfl (fun h4 => ?_) (fun h4 => ?_)
          · skip
            refine xZ.adv (me := xm179) hP_179 1 (pc' := 73) (lv' := [(7, .int (yw x2)), (6, .int (yw x1)), (0, .ref v0), (1, .ref v1), (3, .int (yw v3)), (4, .int (yw v4)), (5, .int (yw v5))]) (st' := [.int (yw v4)]) rfl ?_
            exact xZ.jreti (me := xm179) hP_179 rfl rfl
          · skip
            refine xZ.adv (me := xm179) hP_179 3 (pc' := 62) (lv' := [(7, .int (yw x2)), (6, .int (yw x1)), (0, .ref v0), (1, .ref v1), (3, .int (yw v3)), (4, .int (yw v4)), (5, .int (yw v5))]) (st' := [.int (1440 : Int32), .int (yw x1), .ref v0]) rfl ?_
            refine xZ.eqs (lv2 := [(7, .int (yw x2)), (6, .int (yw x1)), (0, .ref v0), (1, .ref v1), (3, .int (yw v3)), (4, .int (yw v4)), (5, .int (yw v5))]) (st2 := [.int (yw 1440), .int (yw x1), .ref v0]) rfl (by simp only [yl_lit, yL_lit, yw_add, yw_sub, yw_mul, yw_neg, yl_add, yl_sub, yl_mul, cj_and, cj_or, cj_xor, cj_shl, cj_shr, cj_ushr, cj_div, cj_i2c, cj_i2b, cj_dc, ck_and, ck_or, ck_xor, ck_shl, ck_shr, ck_ushr, ck_i2l, ck_l2i, ck_cmp]) ?_
            refine xZ.calls (κ := oJ) (av := [.int (yw x1), .int (yw 1440)]) (rest := [.ref v0]) (st' := fun x5 => [.int (yw x5), .ref v0]) (me := xm179) hP_179 rfl rfl rfl (Nat.le_of_ble_eq_true rfl) (by decide) hP_251 (Nat.le_of_ble_eq_true rfl) (fun _ => rfl) (k_f_Math_floorDiv O f (d + 3) x1 1440 M2) (fun x5 M3 => ?_)
            refine xZ.callv (κ := oJ) (av := [.int (yw x5)]) (rest := []) (st' := fun x6 => [.int (yw x6)]) (k0 := v0) (me := xm179) hP_179 rfl (Or.inl rfl) ⟨rfl, by decide⟩ rfl rfl (Nat.le_of_ble_eq_true rfl) (by decide) hP_176 (Nat.le_of_ble_eq_true rfl) (fun _ => rfl) (k_f_Person_isWorkDay O f (d + 2) v0 x5 M3) (fun x6 M4 => ?_)
            refine xZ.jf_ne (me := xm179) hP_179 rfl (fun h5 => ?_) (fun h5 => ?_)
            · skip
              refine xZ.adv (me := xm179) hP_179 1 (pc' := 73) (lv' := [(7, .int (yw x2)), (6, .int (yw x1)), (0, .ref v0), (1, .ref v1), (3, .int (yw v3)), (4, .int (yw v4)), (5, .int (yw v5))]) (st' := [.int (yw v4)]) rfl ?_
              exact xZ.jreti (me := xm179) hP_179 rfl rfl
            · skip
              refine xZ.adv (me := xm179) hP_179 2 (pc' := 77) (lv' := [(7, .int (yw x2)), (6, .int (yw x1)), (0, .ref v0), (1, .ref v1), (3, .int (yw v3)), (4, .int (yw v4)), (5, .int (yw v5))]) (st' := [.ref v0, .int (yw v4)]) rfl ?_
              refine xZ.k_gJ (me := xm179) hP_179 rfl (fun x7 => ?_)
              refine xZ.adv (me := xm179) hP_179 5 (pc' := 87) (lv' := [(7, .int (yw x2)), (6, .int (yw x1)), (0, .ref v0), (1, .ref v1), (3, .int (yw v3)), (4, .int (yw v4)), (5, .int (yw v5))]) (st' := [.int (yw v4), .ref v1, .int (((yw v4) + (yw x7)) - (yw x2))]) rfl ?_
              refine xZ.eqs (lv2 := [(7, .int (yw x2)), (6, .int (yw x1)), (0, .ref v0), (1, .ref v1), (3, .int (yw v3)), (4, .int (yw v4)), (5, .int (yw v5))]) (st2 := [.int (yw v4), .ref v1, .int (yw ((v4 + x7) - x2))]) rfl (by simp only [yl_lit, yL_lit, yw_add, yw_sub, yw_mul, yw_neg, yl_add, yl_sub, yl_mul, cj_and, cj_or, cj_xor, cj_shl, cj_shr, cj_ushr, cj_div, cj_i2c, cj_i2b, cj_dc, ck_and, ck_or, ck_xor, ck_shl, ck_shr, ck_ushr, ck_i2l, ck_l2i, ck_cmp]) ?_
              refine xZ.callv (κ := oJ) (av := [.int (yw v4)]) (rest := [.int (yw ((v4 + x7) - x2))]) (st' := fun x8 => [.int (yw x8), .int (yw ((v4 + x7) - x2))]) (k0 := v1) (me := xm179) hP_179 rfl (Or.inl rfl) ⟨rfl, by decide⟩ rfl rfl (Nat.le_of_ble_eq_true rfl) (by decide) hP_177 (Nat.le_of_ble_eq_true rfl) (fun _ => rfl) (k_f_Zone_nextSwitch O f (d + 1) v1 v4 M4) (fun x8 M5 => ?_)
              refine xZ.calls (κ := oJ) (av := [.int (yw ((v4 + x7) - x2)), .int (yw x8)]) (rest := []) (st' := fun x9 => [.int (yw x9)]) (me := xm179) hP_179 rfl rfl rfl (Nat.le_of_ble_eq_true rfl) (by decide) hP_248 (Nat.le_of_ble_eq_true rfl) (fun _ => rfl) (k_f_Math_min O f (d + 3) ((v4 + x7) - x2) x8 M5) (fun x9 M6 => ?_)
              refine xZ.adv (me := xm179) hP_179 3 (pc' := 6) (lv' := [(5, .int ((yw v5) + (1 : Int32))), (4, .int (yw x9)), (7, .int (yw x2)), (6, .int (yw x1)), (0, .ref v0), (1, .ref v1), (3, .int (yw v3))]) (st' := []) rfl ?_
              refine xZ.eqs (lv2 := [(5, .int (yw (v5 + 1))), (4, .int (yw x9)), (7, .int (yw x2)), (6, .int (yw x1)), (0, .ref v0), (1, .ref v1), (3, .int (yw v3))]) (st2 := []) (by simp only [yl_lit, yL_lit, yw_add, yw_sub, yw_mul, yw_neg, yl_add, yl_sub, yl_mul, cj_and, cj_or, cj_xor, cj_shl, cj_shr, cj_ushr, cj_div, cj_i2c, cj_i2b, cj_dc, ck_and, ck_or, ck_xor, ck_shl, ck_shr, ck_ushr, ck_i2l, ck_l2i, ck_cmp]) rfl ?_
              exact xZ.sub (xsc (.tail _ (.tail _ (.tail _ (.tail _ (.head _))))) (xsc (.tail _ (.tail _ (.tail _ (.tail _ (.tail _ (.head _)))))) (xsc (.tail _ (.tail _ (.tail _ (.tail _ (.tail _ (.tail _ (.head _))))))) (xsc (.tail _ (.head _)) (xsc (.head _) xsn))))) (show ([5, 4, 7, 6, 0, 1, 3] : List Nat).Nodup from by decide) (ih v0 v1 v3 x9 (v5 + 1) M6)
def f_Person_idleFrom (O : Nat → Option va_E) (f : Nat) (v0 : Nat) (v1 : Nat) (v2 : Int) (v3 : Int) (M : xM) : Option (Int × xM) :=
  f_Person_idleFrom_6 O f f v0 v1 v3 v2 0 M
set_option maxRecDepth 20000 in
theorem k_f_Person_idleFrom (O : Nat → Option va_E) (f d : Nat) (v0 : Nat) (v1 : Nat) (v2 : Int) (v3 : Int) (M : xM) : xZ oJ O (d + 4) 179 0 [(0, .ref v0), (1, .ref v1), (2, .int (yw v2)), (3, .int (yw v3))] [] M (f_Person_idleFrom O f v0 v1 v2 v3 M) := by
  unfold f_Person_idleFrom
  refine xZ.adv (me := xm179) hP_179 4 (pc' := 6) (lv' := [(5, .int (0 : Int32)), (4, .int (yw v2)), (0, .ref v0), (1, .ref v1), (2, .int (yw v2)), (3, .int (yw v3))]) (st' := []) rfl ?_
  refine xZ.eqs (lv2 := [(5, .int (yw 0)), (4, .int (yw v2)), (0, .ref v0), (1, .ref v1), (2, .int (yw v2)), (3, .int (yw v3))]) (st2 := []) (by simp only [yl_lit, yL_lit, yw_add, yw_sub, yw_mul, yw_neg, yl_add, yl_sub, yl_mul, cj_and, cj_or, cj_xor, cj_shl, cj_shr, cj_ushr, cj_div, cj_i2c, cj_i2b, cj_dc, ck_and, ck_or, ck_xor, ck_shl, ck_shr, ck_ushr, ck_i2l, ck_l2i, ck_cmp]) rfl ?_
  exact xZ.sub (xsc (.tail _ (.tail _ (.head _))) (xsc (.tail _ (.tail _ (.tail _ (.head _)))) (xsc (.tail _ (.tail _ (.tail _ (.tail _ (.tail _ (.head _)))))) (xsc (.tail _ (.head _)) (xsc (.head _) xsn))))) (show ([5, 4, 0, 1, 2, 3] : List Nat).Nodup from by decide) (k_f_Person_idleFrom_6 O f d f v0 v1 v3 v2 0 M)
def f_Calendarhall_countMinutes_146 (O : Nat → Option va_E) (f : Nat) (K22 : Nat → Nat → Int → Int → Nat → Int → Int → Int → xM → Option (Int × xM)) (v0 : Nat) (v1 : Nat) (v3 : Int) (v4 : Int) (v5 : Nat) (v6 : Int) (v8 : Int) (v9 : Int) (M : xM) : Option (Int × xM) :=
  K22 v0 v1 v3 v4 v5 v6 v9 (v8 + 1) M
set_option maxRecDepth 20000 in
theorem k_f_Calendarhall_countMinutes_146 (O : Nat → Option va_E) (f d : Nat) (K22 : Nat → Nat → Int → Int → Nat → Int → Int → Int → xM → Option (Int × xM)) (hK22 : ∀ (v0 : Nat) (v1 : Nat) (v3 : Int) (v4 : Int) (v5 : Nat) (v6 : Int) (v7 : Int) (v8 : Int) M, xZ oJ O (d + 5) 168 22 [(0, .ref v0), (1, .ref v1), (3, .int (yw v3)), (4, .int (yw v4)), (5, .ref v5), (6, .int (yw v6)), (7, .int (yw v7)), (8, .int (yw v8))] [] M (K22 v0 v1 v3 v4 v5 v6 v7 v8 M)) (v0 : Nat) (v1 : Nat) (v3 : Int) (v4 : Int) (v5 : Nat) (v6 : Int) (v8 : Int) (v9 : Int) (M : xM) : xZ oJ O (d + 5) 168 146 [(0, .ref v0), (1, .ref v1), (3, .int (yw v3)), (4, .int (yw v4)), (5, .ref v5), (6, .int (yw v6)), (8, .int (yw v8)), (9, .int (yw v9))] [] M (f_Calendarhall_countMinutes_146 O f K22 v0 v1 v3 v4 v5 v6 v8 v9 M) := by
  unfold f_Calendarhall_countMinutes_146
  refine xZ.adv (me := xm168) hP_168 4 (pc' := 22) (lv' := [(8, .int ((yw v8) + (1 : Int32))), (7, .int (yw v9)), (0, .ref v0), (1, .ref v1), (3, .int (yw v3)), (4, .int (yw v4)), (5, .ref v5), (6, .int (yw v6)), (9, .int (yw v9))]) (st' := []) rfl ?_
  refine xZ.eqs (lv2 := [(8, .int (yw (v8 + 1))), (7, .int (yw v9)), (0, .ref v0), (1, .ref v1), (3, .int (yw v3)), (4, .int (yw v4)), (5, .ref v5), (6, .int (yw v6)), (9, .int (yw v9))]) (st2 := []) (by simp only [yl_lit, yL_lit, yw_add, yw_sub, yw_mul, yw_neg, yl_add, yl_sub, yl_mul, cj_and, cj_or, cj_xor, cj_shl, cj_shr, cj_ushr, cj_div, cj_i2c, cj_i2b, cj_dc, ck_and, ck_or, ck_xor, ck_shl, ck_shr, ck_ushr, ck_i2l, ck_l2i, ck_cmp]) rfl ?_
  exact xZ.sub (xsc (.tail _ (.tail _ (.head _))) (xsc (.tail _ (.tail _ (.tail _ (.head _)))) (xsc (.tail _ (.tail _ (.tail _ (.tail _ (.head _))))) (xsc (.tail _ (.tail _ (.tail _ (.tail _ (.tail _ (.head _)))))) (xsc (.tail _ (.tail _ (.tail _ (.tail _ (.tail _ (.tail _ (.head _))))))) (xsc (.tail _ (.tail _ (.tail _ (.tail _ (.tail _ (.tail _ (.tail _ (.head _)))))))) (xsc (.tail _ (.head _)) (xsc (.head _) xsn)))))))) (show ([8, 7, 0, 1, 3, 4, 5, 6, 9] : List Nat).Nodup from by decide) (hK22 v0 v1 v3 v4 v5 v6 v9 (v8 + 1) M)
def f_Calendarhall_countMinutes_132 (O : Nat → Option va_E) (f : Nat) (K22 : Nat → Nat → Int → Int → Nat → Int → Int → Int → xM → Option (Int × xM)) (v0 : Nat) (v1 : Nat) (v3 : Int) (v4 : Int) (v5 : Nat) (v6 : Int) (v7 : Int) (v8 : Int) (v10 : Int) (M : xM) : Option (Int × xM) :=
  f_Calendarhall_countMinutes_146 O f K22 v0 v1 v3 v4 v5 (v6 + (v10 - v7)) v8 v10 M
set_option maxRecDepth 20000 in
theorem k_f_Calendarhall_countMinutes_132 (O : Nat → Option va_E) (f d : Nat) (K22 : Nat → Nat → Int → Int → Nat → Int → Int → Int → xM → Option (Int × xM)) (hK22 : ∀ (v0 : Nat) (v1 : Nat) (v3 : Int) (v4 : Int) (v5 : Nat) (v6 : Int) (v7 : Int) (v8 : Int) M, xZ oJ O (d + 5) 168 22 [(0, .ref v0), (1, .ref v1), (3, .int (yw v3)), (4, .int (yw v4)), (5, .ref v5), (6, .int (yw v6)), (7, .int (yw v7)), (8, .int (yw v8))] [] M (K22 v0 v1 v3 v4 v5 v6 v7 v8 M)) (v0 : Nat) (v1 : Nat) (v3 : Int) (v4 : Int) (v5 : Nat) (v6 : Int) (v7 : Int) (v8 : Int) (v10 : Int) (M : xM) : xZ oJ O (d + 5) 168 132 [(0, .ref v0), (1, .ref v1), (3, .int (yw v3)), (4, .int (yw v4)), (5, .ref v5), (6, .int (yw v6)), (7, .int (yw v7)), (8, .int (yw v8)), (10, .int (yw v10))] [] M (f_Calendarhall_countMinutes_132 O f K22 v0 v1 v3 v4 v5 v6 v7 v8 v10 M) := by
  unfold f_Calendarhall_countMinutes_132
  refine xZ.adv (me := xm168) hP_168 8 (pc' := 146) (lv' := [(9, .int (yw v10)), (6, .int ((yw v6) + ((yw v10) - (yw v7)))), (0, .ref v0), (1, .ref v1), (3, .int (yw v3)), (4, .int (yw v4)), (5, .ref v5), (7, .int (yw v7)), (8, .int (yw v8)), (10, .int (yw v10))]) (st' := []) rfl ?_
  refine xZ.eqs (lv2 := [(9, .int (yw v10)), (6, .int (yw (v6 + (v10 - v7)))), (0, .ref v0), (1, .ref v1), (3, .int (yw v3)), (4, .int (yw v4)), (5, .ref v5), (7, .int (yw v7)), (8, .int (yw v8)), (10, .int (yw v10))]) (st2 := []) (by simp only [yl_lit, yL_lit, yw_add, yw_sub, yw_mul, yw_neg, yl_add, yl_sub, yl_mul, cj_and, cj_or, cj_xor, cj_shl, cj_shr, cj_ushr, cj_div, cj_i2c, cj_i2b, cj_dc, ck_and, ck_or, ck_xor, ck_shl, ck_shr, ck_ushr, ck_i2l, ck_l2i, ck_cmp]) rfl ?_
  exact xZ.sub (xsc (.tail _ (.tail _ (.head _))) (xsc (.tail _ (.tail _ (.tail _ (.head _)))) (xsc (.tail _ (.tail _ (.tail _ (.tail _ (.head _))))) (xsc (.tail _ (.tail _ (.tail _ (.tail _ (.tail _ (.head _)))))) (xsc (.tail _ (.tail _ (.tail _ (.tail _ (.tail _ (.tail _ (.head _))))))) (xsc (.tail _ (.head _)) (xsc (.tail _ (.tail _ (.tail _ (.tail _ (.tail _ (.tail _ (.tail _ (.tail _ (.head _))))))))) (xsc (.head _) xsn)))))))) (show ([9, 6, 0, 1, 3, 4, 5, 7, 8, 10] : List Nat).Nodup from by decide) (k_f_Calendarhall_countMinutes_146 O f d K22 hK22 v0 v1 v3 v4 v5 (v6 + (v10 - v7)) v8 v10 M)
def f_Calendarhall_countMinutes_109 (O : Nat → Option va_E) (f : Nat) (K22 : Nat → Nat → Int → Int → Nat → Int → Int → Int → xM → Option (Int × xM)) (v0 : Nat) (v1 : Nat) (v3 : Int) (v4 : Int) (v5 : Nat) (v6 : Int) (v7 : Int) (v8 : Int) (s0 : Int) (M : xM) : Option (Int × xM) :=
  if yw v4 = yw 0 then (
    f_Calendarhall_countMinutes_132 O f K22 v0 v1 v3 v4 v5 v6 v7 v8 s0 M
  ) else
  (isO O M v1 6).bind fun _ =>
  xcl (f_Person_idleFrom O f v1 v5 v7 v3 M) fun x1 M1 =>
  xcl (f_Math_min O f s0 x1 M1) fun x2 M2 =>
  f_Calendarhall_countMinutes_132 O f K22 v0 v1 v3 v4 v5 v6 v7 v8 x2 M2
set_option maxRecDepth 20000 in
theorem k_f_Calendarhall_countMinutes_109 (O : Nat → Option va_E) (f d : Nat) (K22 : Nat → Nat → Int → Int → Nat → Int → Int → Int → xM → Option (Int × xM)) (hK22 : ∀ (v0 : Nat) (v1 : Nat) (v3 : Int) (v4 : Int) (v5 : Nat) (v6 : Int) (v7 : Int) (v8 : Int) M, xZ oJ O (d + 5) 168 22 [(0, .ref v0), (1, .ref v1), (3, .int (yw v3)), (4, .int (yw v4)), (5, .ref v5), (6, .int (yw v6)), (7, .int (yw v7)), (8, .int (yw v8))] [] M (K22 v0 v1 v3 v4 v5 v6 v7 v8 M)) (v0 : Nat) (v1 : Nat) (v3 : Int) (v4 : Int) (v5 : Nat) (v6 : Int) (v7 : Int) (v8 : Int) (s0 : Int) (M : xM) : xZ oJ O (d + 5) 168 109 [(0, .ref v0), (1, .ref v1), (3, .int (yw v3)), (4, .int (yw v4)), (5, .ref v5), (6, .int (yw v6)), (7, .int (yw v7)), (8, .int (yw v8))] [.int (yw s0)] M (f_Calendarhall_countMinutes_109 O f K22 v0 v1 v3 v4 v5 v6 v7 v8 s0 M) := by
  unfold f_Calendarhall_countMinutes_109
  refine xZ.adv (me := xm168) hP_168 2 (pc' := 113) (lv' := [(10, .int (yw s0)), (0, .ref v0), (1, .ref v1), (3, .int (yw v3)), (4, .int (yw v4)), (5, .ref v5), (6, .int (yw v6)), (7, .int (yw v7)), (8, .int (yw v8))]) (st' := [.int (yw v4)]) rfl ?_
  refine xZ.jf_eq (me := xm168) hP_168 rfl (fun h1 => ?_) (fun h1 => ?_)
  · skip
    exact xZ.sub (xsc (.tail _ (.head _)) (xsc (.tail _ (.tail _ (.head _))) (xsc (.tail _ (.tail _ (.tail _ (.head _)))) (xsc (.tail _ (.tail _ (.tail _ (.tail _ (.head _))))) (xsc (.tail _ (.tail _ (.tail _ (.tail _ (.tail _ (.head _)))))) (xsc (.tail _ (.tail _ (.tail _ (.tail _ (.tail _ (.tail _ (.head _))))))) (xsc (.tail _ (.tail _ (.tail _ (.tail _ (.tail _ (.tail _ (.tail _ (.head _)))))))) (xsc (.tail _ (.tail _ (.tail _ (.tail _ (.tail _ (.tail _ (.tail _ (.tail _ (.head _))))))))) (xsc (.head _) xsn))))))))) (show ([10, 0, 1, 3, 4, 5, 6, 7, 8] : List Nat).Nodup from by decide) (k_f_Calendarhall_countMinutes_132 O f d K22 hK22 v0 v1 v3 v4 v5 v6 v7 v8 s0 M)
  · skip
    refine xZ.adv (me := xm168) hP_168 5 (pc' := 124) (lv' := [(10, .int (yw s0)), (0, .ref v0), (1, .ref v1), (3, .int (yw v3)), (4, .int (yw v4)), (5, .ref v5), (6, .int (yw v6)), (7, .int (yw v7)), (8, .int (yw v8))]) (st' := [.int (yw v3), .int (yw v7), .ref v5, .ref v1, .int (yw s0)]) rfl ?_
    refine xZ.callv (κ := oJ) (av := [.ref v5, .int (yw v7), .int (yw v3)]) (rest := [.int (yw s0)]) (st' := fun x1 => [.int (yw x1), .int (yw s0)]) (k0 := v1) (me := xm168) hP_168 rfl (Or.inl rfl) ⟨rfl, by decide⟩ rfl rfl (Nat.le_of_ble_eq_true rfl) (by decide) hP_179 (Nat.le_of_ble_eq_true rfl) (fun _ => rfl) (k_f_Person_idleFrom O f (d + 0) v1 v5 v7 v3 M) (fun x1 M1 => ?_)
    refine xZ.calls (κ := oJ) (av := [.int (yw s0), .int (yw x1)]) (rest := []) (st' := fun x2 => [.int (yw x2)]) (me := xm168) hP_168 rfl rfl rfl (Nat.le_of_ble_eq_true rfl) (by decide) hP_248 (Nat.le_of_ble_eq_true rfl) (fun _ => rfl) (k_f_Math_min O f (d + 4) s0 x1 M1) (fun x2 M2 => ?_)
    refine xZ.adv (me := xm168) hP_168 1 (pc' := 132) (lv' := [(10, .int (yw x2)), (0, .ref v0), (1, .ref v1), (3, .int (yw v3)), (4, .int (yw v4)), (5, .ref v5), (6, .int (yw v6)), (7, .int (yw v7)), (8, .int (yw v8))]) (st' := []) rfl ?_
    exact xZ.sub (xsc (.tail _ (.head _)) (xsc (.tail _ (.tail _ (.head _))) (xsc (.tail _ (.tail _ (.tail _ (.head _)))) (xsc (.tail _ (.tail _ (.tail _ (.tail _ (.head _))))) (xsc (.tail _ (.tail _ (.tail _ (.tail _ (.tail _ (.head _)))))) (xsc (.tail _ (.tail _ (.tail _ (.tail _ (.tail _ (.tail _ (.head _))))))) (xsc (.tail _ (.tail _ (.tail _ (.tail _ (.tail _ (.tail _ (.tail _ (.head _)))))))) (xsc (.tail _ (.tail _ (.tail _ (.tail _ (.tail _ (.tail _ (.tail _ (.tail _ (.head _))))))))) (xsc (.head _) xsn))))))))) (show ([10, 0, 1, 3, 4, 5, 6, 7, 8] : List Nat).Nodup from by decide) (k_f_Calendarhall_countMinutes_132 O f d K22 hK22 v0 v1 v3 v4 v5 v6 v7 v8 x2 M2)
def f_Calendarhall_countMinutes_79 (O : Nat → Option va_E) (f : Nat) (K22 : Nat → Nat → Int → Int → Nat → Int → Int → Int → xM → Option (Int × xM)) (v0 : Nat) (v1 : Nat) (v3 : Int) (v4 : Int) (v5 : Nat) (v6 : Int) (v7 : Int) (v8 : Int) (v9 : Int) (M : xM) : Option (Int × xM) :=
  if yw v9 = yw v7 then (
    if yw v4 = yw 1 then (
      f_Calendarhall_countMinutes_109 O f K22 v0 v1 v3 v4 v5 v6 v7 v8 v3 M
    ) else
    (gR O M v0 12 4).bind fun x1 =>
    (isO O M x1 2).bind fun _ =>
    xcl (f_Dates_offFrom O f x1 v7 M) fun x2 M1 =>
    xcl (f_Math_min O f v3 x2 M1) fun x3 M2 =>
    f_Calendarhall_countMinutes_109 O f K22 v0 v1 v3 v4 v5 v6 v7 v8 x3 M2
  ) else
  f_Calendarhall_countMinutes_146 O f K22 v0 v1 v3 v4 v5 v6 v8 v9 M
set_option maxRecDepth 20000 in
theorem k_f_Calendarhall_countMinutes_79 (O : Nat → Option va_E) (f d : Nat) (K22 : Nat → Nat → Int → Int → Nat → Int → Int → Int → xM → Option (Int × xM)) (hK22 : ∀ (v0 : Nat) (v1 : Nat) (v3 : Int) (v4 : Int) (v5 : Nat) (v6 : Int) (v7 : Int) (v8 : Int) M, xZ oJ O (d + 5) 168 22 [(0, .ref v0), (1, .ref v1), (3, .int (yw v3)), (4, .int (yw v4)), (5, .ref v5), (6, .int (yw v6)), (7, .int (yw v7)), (8, .int (yw v8))] [] M (K22 v0 v1 v3 v4 v5 v6 v7 v8 M)) (v0 : Nat) (v1 : Nat) (v3 : Int) (v4 : Int) (v5 : Nat) (v6 : Int) (v7 : Int) (v8 : Int) (v9 : Int) (M : xM) : xZ oJ O (d + 5) 168 79 [(0, .ref v0), (1, .ref v1), (3, .int (yw v3)), (4, .int (yw v4)), (5, .ref v5), (6, .int (yw v6)), (7, .int (yw v7)), (8, .int (yw v8)), (9, .int (yw v9))] [] M (f_Calendarhall_countMinutes_79 O f K22 v0 v1 v3 v4 v5 v6 v7 v8 v9 M) := by
  unfold f_Calendarhall_countMinutes_79
  refine xZ.adv (me := xm168) hP_168 2 (pc' := 83) (lv' := [(0, .ref v0), (1, .ref v1), (3, .int (yw v3)), (4, .int (yw v4)), (5, .ref v5), (6, .int (yw v6)), (7, .int (yw v7)), (8, .int (yw v8)), (9, .int (yw v9))]) (st' := [.int (yw v7), .int (yw v9)]) rfl ?_
  refine xZ.jc_ne (me := xm168) hP_168 rfl (fun h1 => ?_) (fun h1 => ?_)
  · skip
    refine xZ.adv (me := xm168) hP_168 2 (pc' := 89) (lv' := [(0, .ref v0), (1, .ref v1), (3, .int (yw v3)), (4, .int (yw v4)), (5, .ref v5), (6, .int (yw v6)), (7, .int (yw v7)), (8, .int (yw v8)), (9, .int (yw v9))]) (st' := [.int (1 : Int32), .int (yw v4)]) rfl ?_
    refine xZ.eqs (lv2 := [(0, .ref v0), (1, .ref v1), (3, .int (yw v3)), (4, .int (yw v4)), (5, .ref v5), (6, .int (yw v6)), (7, .int (yw v7)), (8, .int (yw v8)), (9, .int (yw v9))]) (st2 := [.int (yw 1), .int (yw v4)]) rfl (by simp only [yl_lit, yL_lit, yw_add, yw_sub, yw_mul, yw_neg, yl_add, yl_sub, yl_mul, cj_and, cj_or, cj_xor, cj_shl, cj_shr, cj_ushr, cj_div, cj_i2c, cj_i2b, cj_dc, ck_and, ck_or, ck_xor, ck_shl, ck_shr, ck_ushr, ck_i2l, ck_l2i, ck_cmp]) ?_
    refine xZ.jc_ne (me := xm168) hP_168 rfl (fun h2 => ?_) (fun h2 => ?_)
    · skip
      refine xZ.adv (me := xm168) hP_168 2 (pc' := 109) (lv' := [(0, .ref v0), (1, .ref v1), (3, .int (yw v3)), (4, .int (yw v4)), (5, .ref v5), (6, .int (yw v6)), (7, .int (yw v7)), (8, .int (yw v8)), (9, .int (yw v9))]) (st' := [.int (yw v3)]) rfl ?_
      exact xZ.sub (xsc (.head _) (xsc (.tail _ (.head _)) (xsc (.tail _ (.tail _ (.head _))) (xsc (.tail _ (.tail _ (.tail _ (.head _)))) (xsc (.tail _ (.tail _ (.tail _ (.tail _ (.head _))))) (xsc (.tail _ (.tail _ (.tail _ (.tail _ (.tail _ (.head _)))))) (xsc (.tail _ (.tail _ (.tail _ (.tail _ (.tail _ (.tail _ (.head _))))))) (xsc (.tail _ (.tail _ (.tail _ (.tail _ (.tail _ (.tail _ (.tail _ (.head _)))))))) xsn)))))))) (show ([0, 1, 3, 4, 5, 6, 7, 8, 9] : List Nat).Nodup from by decide) (k_f_Calendarhall_countMinutes_109 O f d K22 hK22 v0 v1 v3 v4 v5 v6 v7 v8 v3 M)
    · skip
      refine xZ.adv (me := xm168) hP_168 2 (pc' := 98) (lv' := [(0, .ref v0), (1, .ref v1), (3, .int (yw v3)), (4, .int (yw v4)), (5, .ref v5), (6, .int (yw v6)), (7, .int (yw v7)), (8, .int (yw v8)), (9, .int (yw v9))]) (st' := [.ref v0, .int (yw v3)]) rfl ?_
      refine xZ.k_gR (me := xm168) hP_168 rfl (fun x1 => ?_)
      refine xZ.adv (me := xm168) hP_168 1 (pc' := 103) (lv' := [(0, .ref v0), (1, .ref v1), (3, .int (yw v3)), (4, .int (yw v4)), (5, .ref v5), (6, .int (yw v6)), (7, .int (yw v7)), (8, .int (yw v8)), (9, .int (yw v9))]) (st' := [.int (yw v7), .ref x1, .int (yw v3)]) rfl ?_
      refine xZ.callv (κ := oJ) (av := [.int (yw v7)]) (rest := [.int (yw v3)]) (st' := fun x2 => [.int (yw x2), .int (yw v3)]) (k0 := x1) (me := xm168) hP_168 rfl (Or.inl rfl) ⟨rfl, by decide⟩ rfl rfl (Nat.le_of_ble_eq_true rfl) (by decide) hP_178 (Nat.le_of_ble_eq_true rfl) (fun _ => rfl) (k_f_Dates_offFrom O f (d + 1) x1 v7 M) (fun x2 M1 => ?_)
      refine xZ.calls (κ := oJ) (av := [.int (yw v3), .int (yw x2)]) (rest := []) (st' := fun x3 => [.int (yw x3)]) (me := xm168) hP_168 rfl rfl rfl (Nat.le_of_ble_eq_true rfl) (by decide) hP_248 (Nat.le_of_ble_eq_true rfl) (fun _ => rfl) (k_f_Math_min O f (d + 4) v3 x2 M1) (fun x3 M2 => ?_)
      exact xZ.sub (xsc (.head _) (xsc (.tail _ (.head _)) (xsc (.tail _ (.tail _ (.head _))) (xsc (.tail _ (.tail _ (.tail _ (.head _)))) (xsc (.tail _ (.tail _ (.tail _ (.tail _ (.head _))))) (xsc (.tail _ (.tail _ (.tail _ (.tail _ (.tail _ (.head _)))))) (xsc (.tail _ (.tail _ (.tail _ (.tail _ (.tail _ (.tail _ (.head _))))))) (xsc (.tail _ (.tail _ (.tail _ (.tail _ (.tail _ (.tail _ (.tail _ (.head _)))))))) xsn)))))))) (show ([0, 1, 3, 4, 5, 6, 7, 8, 9] : List Nat).Nodup from by decide) (k_f_Calendarhall_countMinutes_109 O f d K22 hK22 v0 v1 v3 v4 v5 v6 v7 v8 x3 M2)
  · skip
    exact xZ.sub (xsc (.head _) (xsc (.tail _ (.head _)) (xsc (.tail _ (.tail _ (.head _))) (xsc (.tail _ (.tail _ (.tail _ (.head _)))) (xsc (.tail _ (.tail _ (.tail _ (.tail _ (.head _))))) (xsc (.tail _ (.tail _ (.tail _ (.tail _ (.tail _ (.head _)))))) (xsc (.tail _ (.tail _ (.tail _ (.tail _ (.tail _ (.tail _ (.tail _ (.head _)))))))) (xsc (.tail _ (.tail _ (.tail _ (.tail _ (.tail _ (.tail _ (.tail _ (.tail _ (.head _))))))))) xsn)))))))) (show ([0, 1, 3, 4, 5, 6, 7, 8, 9] : List Nat).Nodup from by decide) (k_f_Calendarhall_countMinutes_146 O f d K22 hK22 v0 v1 v3 v4 v5 v6 v8 v9 M)
def f_Calendarhall_countMinutes_56 (O : Nat → Option va_E) (f : Nat) (K22 : Nat → Nat → Int → Int → Nat → Int → Int → Int → xM → Option (Int × xM)) (v0 : Nat) (v1 : Nat) (v3 : Int) (v4 : Int) (v5 : Nat) (v6 : Int) (v7 : Int) (v8 : Int) (s0 : Int) (M : xM) : Option (Int × xM) :=
  if yw v4 = yw 0 then (
    f_Calendarhall_countMinutes_79 O f K22 v0 v1 v3 v4 v5 v6 v7 v8 s0 M
  ) else
  (isO O M v1 6).bind fun _ =>
  xcl (f_Person_workFrom O f v1 v5 v7 v3 M) fun x1 M1 =>
  xcl (f_Math_max O f s0 x1 M1) fun x2 M2 =>
  f_Calendarhall_countMinutes_79 O f K22 v0 v1 v3 v4 v5 v6 v7 v8 x2 M2
set_option maxRecDepth 20000 in
theorem k_f_Calendarhall_countMinutes_56 (O : Nat → Option va_E) (f d : Nat) (K22 : Nat → Nat → Int → Int → Nat → Int → Int → Int → xM → Option (Int × xM)) (hK22 : ∀ (v0 : Nat) (v1 : Nat) (v3 : Int) (v4 : Int) (v5 : Nat) (v6 : Int) (v7 : Int) (v8 : Int) M, xZ oJ O (d + 5) 168 22 [(0, .ref v0), (1, .ref v1), (3, .int (yw v3)), (4, .int (yw v4)), (5, .ref v5), (6, .int (yw v6)), (7, .int (yw v7)), (8, .int (yw v8))] [] M (K22 v0 v1 v3 v4 v5 v6 v7 v8 M)) (v0 : Nat) (v1 : Nat) (v3 : Int) (v4 : Int) (v5 : Nat) (v6 : Int) (v7 : Int) (v8 : Int) (s0 : Int) (M : xM) : xZ oJ O (d + 5) 168 56 [(0, .ref v0), (1, .ref v1), (3, .int (yw v3)), (4, .int (yw v4)), (5, .ref v5), (6, .int (yw v6)), (7, .int (yw v7)), (8, .int (yw v8))] [.int (yw s0)] M (f_Calendarhall_countMinutes_56 O f K22 v0 v1 v3 v4 v5 v6 v7 v8 s0 M) := by
  unfold f_Calendarhall_countMinutes_56
  refine xZ.adv (me := xm168) hP_168 2 (pc' := 60) (lv' := [(9, .int (yw s0)), (0, .ref v0), (1, .ref v1), (3, .int (yw v3)), (4, .int (yw v4)), (5, .ref v5), (6, .int (yw v6)), (7, .int (yw v7)), (8, .int (yw v8))]) (st' := [.int (yw v4)]) rfl ?_
  refine xZ.jf_eq (me := xm168) hP_168 rfl (fun h1 => ?_) (fun h1 => ?_)
  · skip
    exact xZ.sub (xsc (.tail _ (.head _)) (xsc (.tail _ (.tail _ (.head _))) (xsc (.tail _ (.tail _ (.tail _ (.head _)))) (xsc (.tail _ (.tail _ (.tail _ (.tail _ (.head _))))) (xsc (.tail _ (.tail _ (.tail _ (.tail _ (.tail _ (.head _)))))) (xsc (.tail _ (.tail _ (.tail _ (.tail _ (.tail _ (.tail _ (.head _))))))) (xsc (.tail _ (.tail _ (.tail _ (.tail _ (.tail _ (.tail _ (.tail _ (.head _)))))))) (xsc (.tail _ (.tail _ (.tail _ (.tail _ (.tail _ (.tail _ (.tail _ (.tail _ (.head _))))))))) (xsc (.head _) xsn))))))))) (show ([9, 0, 1, 3, 4, 5, 6, 7, 8] : List Nat).Nodup from by decide) (k_f_Calendarhall_countMinutes_79 O f d K22 hK22 v0 v1 v3 v4 v5 v6 v7 v8 s0 M)
  · skip
    refine xZ.adv (me := xm168) hP_168 5 (pc' := 71) (lv' := [(9, .int (yw s0)), (0, .ref v0), (1, .ref v1), (3, .int (yw v3)), (4, .int (yw v4)), (5, .ref v5), (6, .int (yw v6)), (7, .int (yw v7)), (8, .int (yw v8))]) (st' := [.int (yw v3), .int (yw v7), .ref v5, .ref v1, .int (yw s0)]) rfl ?_
    refine xZ.callv (κ := oJ) (av := [.ref v5, .int (yw v7), .int (yw v3)]) (rest := [.int (yw s0)]) (st' := fun x1 => [.int (yw x1), .int (yw s0)]) (k0 := v1) (me := xm168) hP_168 rfl (Or.inl rfl) ⟨rfl, by decide⟩ rfl rfl (Nat.le_of_ble_eq_true rfl) (by decide) hP_175 (Nat.le_of_ble_eq_true rfl) (fun _ => rfl) (k_f_Person_workFrom O f (d + 0) v1 v5 v7 v3 M) (fun x1 M1 => ?_)
    refine xZ.calls (κ := oJ) (av := [.int (yw s0), .int (yw x1)]) (rest := []) (st' := fun x2 => [.int (yw x2)]) (me := xm168) hP_168 rfl rfl rfl (Nat.le_of_ble_eq_true rfl) (by decide) hP_247 (Nat.le_of_ble_eq_true rfl) (fun _ => rfl) (k_f_Math_max O f (d + 4) s0 x1 M1) (fun x2 M2 => ?_)
    refine xZ.adv (me := xm168) hP_168 1 (pc' := 79) (lv' := [(9, .int (yw x2)), (0, .ref v0), (1, .ref v1), (3, .int (yw v3)), (4, .int (yw v4)), (5, .ref v5), (6, .int (yw v6)), (7, .int (yw v7)), (8, .int (yw v8))]) (st' := []) rfl ?_
    exact xZ.sub (xsc (.tail _ (.head _)) (xsc (.tail _ (.tail _ (.head _))) (xsc (.tail _ (.tail _ (.tail _ (.head _)))) (xsc (.tail _ (.tail _ (.tail _ (.tail _ (.head _))))) (xsc (.tail _ (.tail _ (.tail _ (.tail _ (.tail _ (.head _)))))) (xsc (.tail _ (.tail _ (.tail _ (.tail _ (.tail _ (.tail _ (.head _))))))) (xsc (.tail _ (.tail _ (.tail _ (.tail _ (.tail _ (.tail _ (.tail _ (.head _)))))))) (xsc (.tail _ (.tail _ (.tail _ (.tail _ (.tail _ (.tail _ (.tail _ (.tail _ (.head _))))))))) (xsc (.head _) xsn))))))))) (show ([9, 0, 1, 3, 4, 5, 6, 7, 8] : List Nat).Nodup from by decide) (k_f_Calendarhall_countMinutes_79 O f d K22 hK22 v0 v1 v3 v4 v5 v6 v7 v8 x2 M2)
def f_Calendarhall_countMinutes_22 (O : Nat → Option va_E) (f : Nat) : Nat → Nat → Nat → Int → Int → Nat → Int → Int → Int → xM → Option (Int × xM)
  | 0, _, _, _, _, _, _, _, _, _ => none
  | n + 1, v0, v1, v3, v4, v5, v6, v7, v8, M =>
    if yw 20160 < yw v8 then (
      some (v6, M)
    ) else
    if yw v3 ≤ yw v7 then (
      some (v6, M)
    ) else
    if yw v4 = yw 1 then (
      f_Calendarhall_countMinutes_56 O f (f_Calendarhall_countMinutes_22 O f n) v0 v1 v3 v4 v5 v6 v7 v8 v7 M
    ) else
    (gR O M v0 12 4).bind fun x1 =>
    (isO O M x1 2).bind fun _ =>
    xcl (f_Dates_onFrom O f x1 v7 M) fun x2 M1 =>
    f_Calendarhall_countMinutes_56 O f (f_Calendarhall_countMinutes_22 O f n) v0 v1 v3 v4 v5 v6 v7 v8 x2 M1
set_option maxRecDepth 20000 in
theorem k_f_Calendarhall_countMinutes_22 (O : Nat → Option va_E) (f d : Nat) : ∀ (n : Nat) (v0 : Nat) (v1 : Nat) (v3 : Int) (v4 : Int) (v5 : Nat) (v6 : Int) (v7 : Int) (v8 : Int) (M : xM), xZ oJ O (d + 5) 168 22 [(0, .ref v0), (1, .ref v1), (3, .int (yw v3)), (4, .int (yw v4)), (5, .ref v5), (6, .int (yw v6)), (7, .int (yw v7)), (8, .int (yw v8))] [] M (f_Calendarhall_countMinutes_22 O f n v0 v1 v3 v4 v5 v6 v7 v8 M) := by
  intro n
  induction n with
  | zero =>
    intro v0 v1 v3 v4 v5 v6 v7 v8 M
    exact xZ.no
  | succ n ih =>
    intro v0 v1 v3 v4 v5 v6 v7 v8 M
    unfold f_Calendarhall_countMinutes_22
    refine xZ.adv (me := xm168) hP_168 2 (pc' := 27) (lv' := [(0, .ref v0), (1, .ref v1), (3, .int (yw v3)), (4, .int (yw v4)), (5, .ref v5), (6, .int (yw v6)), (7, .int (yw v7)), (8, .int (yw v8))]) (st' := [.int (20160 : Int32), .int (yw v8)]) rfl ?_
    refine xZ.eqs (lv2 := [(0, .ref v0), (1, .ref v1), (3, .int (yw v3)), (4, .int (yw v4)), (5, .ref v5), (6, .int (yw v6)), (7, .int (yw v7)), (8, .int (yw v8))]) (st2 := [.int (yw 20160), .int (yw v8)]) rfl (by simp only [yl_lit, yL_lit, yw_add, yw_sub, yw_mul, yw_neg, yl_add, yl_sub, yl_mul, cj_and, cj_or, cj_xor, cj_shl, cj_shr, cj_ushr, cj_div, cj_i2c, cj_i2b, cj_dc, ck_and, ck_or, ck_xor, ck_shl, ck_shr, ck_ushr, ck_i2l, ck_l2i, ck_cmp]) ?_
    refine xZ.jc_gt (me := xm168) hP_168 rfl (fun h1 => ?_) (fun h1 => ?_)
    · skip
      refine xZ.adv (me := xm168) hP_168 1 (pc' := 158) (lv' := [(0, .ref v0), (1, .ref v1), (3, .int (yw v3)), (4, .int (yw v4)), (5, .ref v5), (6, .int (yw v6)), (7, .int (yw v7)), (8, .int (yw v8))]) (st' := [.int (yw v6)]) rfl ?_
      exact xZ.jreti (me := xm168) hP_168 rfl rfl
    · skip
      refine xZ.adv (me := xm168) hP_168 2 (pc' := 33) (lv' := [(0, .ref v0), (1, .ref v1), (3, .int (yw v3)), (4, .int (yw v4)), (5, .ref v5), (6, .int (yw v6)), (7, .int (yw v7)), (8, .int (yw v8))]) (st' := [.int (yw v3), .int (yw v7)]) rfl ?_
      refine xZ.jc_ge (me := xm168) hP_168 rfl (fun h2 => ?_) (fun h2 => ?_)
      · skip
        refine xZ.adv (me := xm168) hP_168 1 (pc' := 158) (lv' := [(0, .ref v0), (1, .ref v1), (3, .int (yw v3)), (4, .int (yw v4)), (5, .ref v5), (6, .int (yw v6)), (7, .int (yw v7)), (8, .int (yw v8))]) (st' := [.int (yw v6)]) rfl ?_
        exact xZ.jreti (me := xm168) hP_168 rfl rfl
      · skip
        refine xZ.adv (me := xm168) hP_168 2 (pc' := 39) (lv' := [(0, .ref v0), (1, .ref v1), (3, .int (yw v3)), (4, .int (yw v4)), (5, .ref v5), (6, .int (yw v6)), (7, .int (yw v7)), (8, .int (yw v8))]) (st' := [.int (1 : Int32), .int (yw v4)]) rfl ?_
        refine xZ.eqs (lv2 := [(0, .ref v0), (1, .ref v1), (3, .int (yw v3)), (4, .int (yw v4)), (5, .ref v5), (6, .int (yw v6)), (7, .int (yw v7)), (8, .int (yw v8))]) (st2 := [.int (yw 1), .int (yw v4)]) rfl (by simp only [yl_lit, yL_lit, yw_add, yw_sub, yw_mul, yw_neg, yl_add, yl_sub, yl_mul, cj_and, cj_or, cj_xor, cj_shl, cj_shr, cj_ushr, cj_div, cj_i2c, cj_i2b, cj_dc, ck_and, ck_or, ck_xor, ck_shl, ck_shr, ck_ushr, ck_i2l, ck_l2i, ck_cmp]) ?_
        refine xZ.jc_ne (me := xm168) hP_168 rfl (fun h3 => ?_) (fun h3 => ?_)
        · skip
          refine xZ.adv (me := xm168) hP_168 2 (pc' := 56) (lv' := [(0, .ref v0), (1, .ref v1), (3, .int (yw v3)), (4, .int (yw v4)), (5, .ref v5), (6, .int (yw v6)), (7, .int (yw v7)), (8, .int (yw v8))]) (st' := [.int (yw v7)]) rfl ?_
          exact (k_f_Calendarhall_countMinutes_56 O f d (f_Calendarhall_countMinutes_22 O f n) ih v0 v1 v3 v4 v5 v6 v7 v8 v7 M)
        · skip
          refine xZ.adv (me := xm168) hP_168 1 (pc' := 48) (lv' := [(0, .ref v0), (1, .ref v1), (3, .int (yw v3)), (4, .int (yw v4)), (5, .ref v5), (6, .int (yw v6)), (7, .int (yw v7)), (8, .int (yw v8))]) (st' := [.ref v0]) rfl ?_
          refine xZ.k_gR (me := xm168) hP_168 rfl (fun x1 => ?_)
          refine xZ.adv (me := xm168) hP_168 1 (pc' := 53) (lv' := [(0, .ref v0), (1, .ref v1), (3, .int (yw v3)), (4, .int (yw v4)), (5, .ref v5), (6, .int (yw v6)), (7, .int (yw v7)), (8, .int (yw v8))]) (st' := [.int (yw v7), .ref x1]) rfl ?_
          refine xZ.callv (κ := oJ) (av := [.int (yw v7)]) (rest := []) (st' := fun x2 => [.int (yw x2)]) (k0 := x1) (me := xm168) hP_168 rfl (Or.inl rfl) ⟨rfl, by decide⟩ rfl rfl (Nat.le_of_ble_eq_true rfl) (by decide) hP_169 (Nat.le_of_ble_eq_true rfl) (fun _ => rfl) (k_f_Dates_onFrom O f (d + 1) x1 v7 M) (fun x2 M1 => ?_)
          exact (k_f_Calendarhall_countMinutes_56 O f d (f_Calendarhall_countMinutes_22 O f n) ih v0 v1 v3 v4 v5 v6 v7 v8 x2 M1)
def f_Calendarhall_countMinutes (O : Nat → Option va_E) (f : Nat) (v0 : Nat) (v1 : Nat) (v2 : Int) (v3 : Int) (v4 : Int) (M : xM) : Option (Int × xM) :=
  (gR O M v0 12 0).bind fun x1 =>
  (gJ O M v1 6 0).bind fun x2 =>
  (isO O M x1 4).bind fun _ =>
  xcl (f_Hall_anyZone O f x1 x2 M) fun x3 M1 =>
  f_Calendarhall_countMinutes_22 O f f v0 v1 v3 v4 x3 0 v2 0 M1
set_option maxRecDepth 20000 in
theorem k_f_Calendarhall_countMinutes (O : Nat → Option va_E) (f d : Nat) (v0 : Nat) (v1 : Nat) (v2 : Int) (v3 : Int) (v4 : Int) (M : xM) : xZ oJ O (d + 5) 168 0 [(0, .ref v0), (1, .ref v1), (2, .int (yw v2)), (3, .int (yw v3)), (4, .int (yw v4))] [] M (f_Calendarhall_countMinutes O f v0 v1 v2 v3 v4 M) := by
  unfold f_Calendarhall_countMinutes
  refine xZ.adv (me := xm168) hP_168 1 (pc' := 1) (lv' := [(0, .ref v0), (1, .ref v1), (2, .int (yw v2)), (3, .int (yw v3)), (4, .int (yw v4))]) (st' := [.ref v0]) rfl ?_
  refine xZ.k_gR (me := xm168) hP_168 rfl (fun x1 => ?_)
  refine xZ.adv (me := xm168) hP_168 1 (pc' := 5) (lv' := [(0, .ref v0), (1, .ref v1), (2, .int (yw v2)), (3, .int (yw v3)), (4, .int (yw v4))]) (st' := [.ref v1, .ref x1]) rfl ?_
  refine xZ.k_gJ (me := xm168) hP_168 rfl (fun x2 => ?_)
  refine xZ.callv (κ := oR) (av := [.int (yw x2)]) (rest := []) (st' := fun x3 => [.ref x3]) (k0 := x1) (me := xm168) hP_168 rfl (Or.inl rfl) ⟨rfl, by decide⟩ rfl rfl (Nat.le_of_ble_eq_true rfl) (by decide) hP_21 (Nat.le_of_ble_eq_true rfl) (fun _ => rfl) (k_f_Hall_anyZone O f (d + 4) x1 x2 M) (fun x3 M1 => ?_)
  refine xZ.adv (me := xm168) hP_168 7 (pc' := 22) (lv' := [(8, .int (0 : Int32)), (7, .int (yw v2)), (6, .int (0 : Int32)), (5, .ref x3), (0, .ref v0), (1, .ref v1), (2, .int (yw v2)), (3, .int (yw v3)), (4, .int (yw v4))]) (st' := []) rfl ?_
  refine xZ.eqs (lv2 := [(8, .int (yw 0)), (7, .int (yw v2)), (6, .int (yw 0)), (5, .ref x3), (0, .ref v0), (1, .ref v1), (2, .int (yw v2)), (3, .int (yw v3)), (4, .int (yw v4))]) (st2 := []) (by simp only [yl_lit, yL_lit, yw_add, yw_sub, yw_mul, yw_neg, yl_add, yl_sub, yl_mul, cj_and, cj_or, cj_xor, cj_shl, cj_shr, cj_ushr, cj_div, cj_i2c, cj_i2b, cj_dc, ck_and, ck_or, ck_xor, ck_shl, ck_shr, ck_ushr, ck_i2l, ck_l2i, ck_cmp]) rfl ?_
  exact xZ.sub (xsc (.tail _ (.tail _ (.tail _ (.tail _ (.head _))))) (xsc (.tail _ (.tail _ (.tail _ (.tail _ (.tail _ (.head _)))))) (xsc (.tail _ (.tail _ (.tail _ (.tail _ (.tail _ (.tail _ (.tail _ (.head _)))))))) (xsc (.tail _ (.tail _ (.tail _ (.tail _ (.tail _ (.tail _ (.tail _ (.tail _ (.head _))))))))) (xsc (.tail _ (.tail _ (.tail _ (.head _)))) (xsc (.tail _ (.tail _ (.head _))) (xsc (.tail _ (.head _)) (xsc (.head _) xsn)))))))) (show ([8, 7, 6, 5, 0, 1, 2, 3, 4] : List Nat).Nodup from by decide) (k_f_Calendarhall_countMinutes_22 O f d f v0 v1 v3 v4 x3 0 v2 0 M1)
def f_Calendarhall_minutesOf_51 (O : Nat → Option va_E) (f : Nat) (v0 : Nat) (v2 : Int) (v3 : Int) (v4 : Int) (v5 : Nat) (M : xM) : Option (Int × xM) :=
  (isO O M v0 12).bind fun _ =>
  xcl (f_Calendarhall_countMinutes O f v0 v5 v2 v3 v4 M) fun x1 M1 =>
  some (x1, M1)
set_option maxRecDepth 20000 in
theorem k_f_Calendarhall_minutesOf_51 (O : Nat → Option va_E) (f d : Nat) (v0 : Nat) (v2 : Int) (v3 : Int) (v4 : Int) (v5 : Nat) (M : xM) : xZ oJ O (d + 7) 161 51 [(0, .ref v0), (2, .int (yw v2)), (3, .int (yw v3)), (4, .int (yw v4)), (5, .ref v5)] [] M (f_Calendarhall_minutesOf_51 O f v0 v2 v3 v4 v5 M) := by
  unfold f_Calendarhall_minutesOf_51
  refine xZ.adv (me := xm161) hP_161 5 (pc' := 58) (lv' := [(0, .ref v0), (2, .int (yw v2)), (3, .int (yw v3)), (4, .int (yw v4)), (5, .ref v5)]) (st' := [.int (yw v4), .int (yw v3), .int (yw v2), .ref v5, .ref v0]) rfl ?_
  refine xZ.callv (κ := oJ) (av := [.ref v5, .int (yw v2), .int (yw v3), .int (yw v4)]) (rest := []) (st' := fun x1 => [.int (yw x1)]) (k0 := v0) (me := xm161) hP_161 rfl (Or.inl rfl) ⟨rfl, by decide⟩ rfl rfl (Nat.le_of_ble_eq_true rfl) (by decide) hP_168 (Nat.le_of_ble_eq_true rfl) (fun _ => rfl) (k_f_Calendarhall_countMinutes O f (d + 1) v0 v5 v2 v3 v4 M) (fun x1 M1 => ?_)
  exact xZ.jreti (me := xm161) hP_161 rfl rfl
def f_Calendarhall_minutesOf (O : Nat → Option va_E) (f : Nat) (v0 : Nat) (v1 : Int) (v2 : Int) (v3 : Int) (v4 : Int) (M : xM) : Option (Int × xM) :=
  (isO O M v0 12).bind fun _ =>
  xcl (f_Calendarhall_personNumbered O f v0 v1 M) fun x1 M1 =>
  xcl (f_Calendarhall_needPiece O f v2 v3 20160 M1) fun _ M2 =>
  xcl (f_Calendarhall_needRange O f v4 0 2 M2) fun _ M3 =>
  if yw v4 = yw 1 then (
    f_Calendarhall_minutesOf_51 O f v0 v2 v3 v4 x1 M3
  ) else
  (gR O M3 v0 12 0).bind fun x4 =>
  (gR O M3 v0 12 4).bind fun x5 =>
  (gR O M3 v0 12 0).bind fun x6 =>
  (isO O M3 x6 4).bind fun _ =>
  xcl (f_Hall_seriesOf O f x6 (jshl 1 (jand v1 31)) M3) fun x7 M4 =>
  (isO O M4 x4 4).bind fun _ =>
  xcl (f_Hall_collectOn O f x4 x5 x7 v2 v3 M4) fun _ M5 =>
  f_Calendarhall_minutesOf_51 O f v0 v2 v3 v4 x1 M5
set_option maxRecDepth 20000 in
theorem k_f_Calendarhall_minutesOf (O : Nat → Option va_E) (f d : Nat) (v0 : Nat) (v1 : Int) (v2 : Int) (v3 : Int) (v4 : Int) (M : xM) : xZ oJ O (d + 7) 161 0 [(0, .ref v0), (1, .int (yw v1)), (2, .int (yw v2)), (3, .int (yw v3)), (4, .int (yw v4))] [] M (f_Calendarhall_minutesOf O f v0 v1 v2 v3 v4 M) := by
  unfold f_Calendarhall_minutesOf
  refine xZ.adv (me := xm161) hP_161 2 (pc' := 2) (lv' := [(0, .ref v0), (1, .int (yw v1)), (2, .int (yw v2)), (3, .int (yw v3)), (4, .int (yw v4))]) (st' := [.int (yw v1), .ref v0]) rfl ?_
  refine xZ.callv (κ := oR) (av := [.int (yw v1)]) (rest := []) (st' := fun x1 => [.ref x1]) (k0 := v0) (me := xm161) hP_161 rfl (Or.inl rfl) ⟨rfl, by decide⟩ rfl rfl (Nat.le_of_ble_eq_true rfl) (by decide) hP_148 (Nat.le_of_ble_eq_true rfl) (fun _ => rfl) (k_f_Calendarhall_personNumbered O f (d + 5) v0 v1 M) (fun x1 M1 => ?_)
  refine xZ.adv (me := xm161) hP_161 4 (pc' := 12) (lv' := [(5, .ref x1), (0, .ref v0), (1, .int (yw v1)), (2, .int (yw v2)), (3, .int (yw v3)), (4, .int (yw v4))]) (st' := [.int (20160 : Int32), .int (yw v3), .int (yw v2)]) rfl ?_
  refine xZ.eqs (lv2 := [(5, .ref x1), (0, .ref v0), (1, .int (yw v1)), (2, .int (yw v2)), (3, .int (yw v3)), (4, .int (yw v4))]) (st2 := [.int (yw 20160), .int (yw v3), .int (yw v2)]) rfl (by simp only [yl_lit, yL_lit, yw_add, yw_sub, yw_mul, yw_neg, yl_add, yl_sub, yl_mul, cj_and, cj_or, cj_xor, cj_shl, cj_shr, cj_ushr, cj_div, cj_i2c, cj_i2b, cj_dc, ck_and, ck_or, ck_xor, ck_shl, ck_shr, ck_ushr, ck_i2l, ck_l2i, ck_cmp]) ?_
  refine xZ.calls (κ := oU) (av := [.int (yw v2), .int (yw v3), .int (yw 20160)]) (rest := []) (st' := fun _ => []) (me := xm161) hP_161 rfl rfl rfl (Nat.le_of_ble_eq_true rfl) (by decide) hP_114 (Nat.le_of_ble_eq_true rfl) (fun _ => rfl) (k_f_Calendarhall_needPiece O f (d + 5) v2 v3 20160 M1) (fun _ M2 => ?_)
  refine xZ.adv (me := xm161) hP_161 3 (pc' := 19) (lv' := [(5, .ref x1), (0, .ref v0), (1, .int (yw v1)), (2, .int (yw v2)), (3, .int (yw v3)), (4, .int (yw v4))]) (st' := [.int (2 : Int32), .int (0 : Int32), .int (yw v4)]) rfl ?_
  refine xZ.eqs (lv2 := [(5, .ref x1), (0, .ref v0), (1, .int (yw v1)), (2, .int (yw v2)), (3, .int (yw v3)), (4, .int (yw v4))]) (st2 := [.int (yw 2), .int (yw 0), .int (yw v4)]) rfl (by simp only [yl_lit, yL_lit, yw_add, yw_sub, yw_mul, yw_neg, yl_add, yl_sub, yl_mul, cj_and, cj_or, cj_xor, cj_shl, cj_shr, cj_ushr, cj_div, cj_i2c, cj_i2b, cj_dc, ck_and, ck_or, ck_xor, ck_shl, ck_shr, ck_ushr, ck_i2l, ck_l2i, ck_cmp]) ?_
  refine xZ.calls (κ := oU) (av := [.int (yw v4), .int (yw 0), .int (yw 2)]) (rest := []) (st' := fun _ => []) (me := xm161) hP_161 rfl rfl rfl (Nat.le_of_ble_eq_true rfl) (by decide) hP_22 (Nat.le_of_ble_eq_true rfl) (fun _ => rfl) (k_f_Calendarhall_needRange O f (d + 6) v4 0 2 M2) (fun _ M3 => ?_)
  refine xZ.adv (me := xm161) hP_161 2 (pc' := 25) (lv' := [(5, .ref x1), (0, .ref v0), (1, .int (yw v1)), (2, .int (yw v2)), (3, .int (yw v3)), (4, .int (yw v4))]) (st' := [.int (1 : Int32), .int (yw v4)]) rfl ?_
  refine xZ.eqs (lv2 := [(5, .ref x1), (0, .ref v0), (1, .int (yw v1)), (2, .int (yw v2)), (3, .int (yw v3)), (4, .int (yw v4))]) (st2 := [.int (yw 1), .int (yw v4)]) rfl (by simp only [yl_lit, yL_lit, yw_add, yw_sub, yw_mul, yw_neg, yl_add, yl_sub, yl_mul, cj_and, cj_or, cj_xor, cj_shl, cj_shr, cj_ushr, cj_div, cj_i2c, cj_i2b, cj_dc, ck_and, ck_or, ck_xor, ck_shl, ck_shr, ck_ushr, ck_i2l, ck_l2i, ck_cmp]) ?_
  refine xZ.jc_eq (me := xm161) hP_161 rfl (fun h1 => ?_) (fun h1 => ?_)
  · skip
    exact xZ.sub (xsc (.tail _ (.head _)) (xsc (.tail _ (.tail _ (.tail _ (.head _)))) (xsc (.tail _ (.tail _ (.tail _ (.tail _ (.head _))))) (xsc (.tail _ (.tail _ (.tail _ (.tail _ (.tail _ (.head _)))))) (xsc (.head _) xsn))))) (show ([5, 0, 1, 2, 3, 4] : List Nat).Nodup from by decide) (k_f_Calendarhall_minutesOf_51 O f d v0 v2 v3 v4 x1 M3)
  · skip
    refine xZ.adv (me := xm161) hP_161 1 (pc' := 29) (lv' := [(5, .ref x1), (0, .ref v0), (1, .int (yw v1)), (2, .int (yw v2)), (3, .int (yw v3)), (4, .int (yw v4))]) (st' := [.ref v0]) rfl ?_
    refine xZ.k_gR (me := xm161) hP_161 rfl (fun x4 => ?_)
    refine xZ.adv (me := xm161) hP_161 1 (pc' := 33) (lv' := [(5, .ref x1), (0, .ref v0), (1, .int (yw v1)), (2, .int (yw v2)), (3, .int (yw v3)), (4, .int (yw v4))]) (st' := [.ref v0, .ref x4]) rfl ?_
    refine xZ.k_gR (me := xm161) hP_161 rfl (fun x5 => ?_)
    refine xZ.adv (me := xm161) hP_161 1 (pc' := 37) (lv' := [(5, .ref x1), (0, .ref v0), (1, .int (yw v1)), (2, .int (yw v2)), (3, .int (yw v3)), (4, .int (yw v4))]) (st' := [.ref v0, .ref x5, .ref x4]) rfl ?_
    refine xZ.k_gR (me := xm161) hP_161 rfl (fun x6 => ?_)
    refine xZ.adv (me := xm161) hP_161 3 (pc' := 43) (lv' := [(5, .ref x1), (0, .ref v0), (1, .int (yw v1)), (2, .int (yw v2)), (3, .int (yw v3)), (4, .int (yw v4))]) (st' := [.int ((1 : Int32) <<< ((yw v1) &&& 31)), .ref x6, .ref x5, .ref x4]) rfl ?_
    refine xZ.eqs (lv2 := [(5, .ref x1), (0, .ref v0), (1, .int (yw v1)), (2, .int (yw v2)), (3, .int (yw v3)), (4, .int (yw v4))]) (st2 := [.int (yw (jshl 1 (jand v1 31))), .ref x6, .ref x5, .ref x4]) rfl (by simp only [yl_lit, yL_lit, yw_add, yw_sub, yw_mul, yw_neg, yl_add, yl_sub, yl_mul, cj_and, cj_or, cj_xor, cj_shl, cj_shr, cj_ushr, cj_div, cj_i2c, cj_i2b, cj_dc, ck_and, ck_or, ck_xor, ck_shl, ck_shr, ck_ushr, ck_i2l, ck_l2i, ck_cmp]) ?_
    refine xZ.callv (κ := oJ) (av := [.int (yw (jshl 1 (jand v1 31)))]) (rest := [.ref x5, .ref x4]) (st' := fun x7 => [.int (yw x7), .ref x5, .ref x4]) (k0 := x6) (me := xm161) hP_161 rfl (Or.inl rfl) ⟨rfl, by decide⟩ rfl rfl (Nat.le_of_ble_eq_true rfl) (by decide) hP_158 (Nat.le_of_ble_eq_true rfl) (fun _ => rfl) (k_f_Hall_seriesOf O f (d + 5) x6 (jshl 1 (jand v1 31)) M3) (fun x7 M4 => ?_)
    refine xZ.adv (me := xm161) hP_161 2 (pc' := 48) (lv' := [(5, .ref x1), (0, .ref v0), (1, .int (yw v1)), (2, .int (yw v2)), (3, .int (yw v3)), (4, .int (yw v4))]) (st' := [.int (yw v3), .int (yw v2), .int (yw x7), .ref x5, .ref x4]) rfl ?_
    refine xZ.callv (κ := oU) (av := [.ref x5, .int (yw x7), .int (yw v2), .int (yw v3)]) (rest := []) (st' := fun _ => []) (k0 := x4) (me := xm161) hP_161 rfl (Or.inl rfl) ⟨rfl, by decide⟩ rfl rfl (Nat.le_of_ble_eq_true rfl) (by decide) hP_162 (Nat.le_of_ble_eq_true rfl) (fun _ => rfl) (k_f_Hall_collectOn O f (d + 0) x4 x5 x7 v2 v3 M4) (fun _ M5 => ?_)
    exact xZ.sub (xsc (.tail _ (.head _)) (xsc (.tail _ (.tail _ (.tail _ (.head _)))) (xsc (.tail _ (.tail _ (.tail _ (.tail _ (.head _))))) (xsc (.tail _ (.tail _ (.tail _ (.tail _ (.tail _ (.head _)))))) (xsc (.head _) xsn))))) (show ([5, 0, 1, 2, 3, 4] : List Nat).Nodup from by decide) (k_f_Calendarhall_minutesOf_51 O f d v0 v2 v3 v4 x1 M5)
def f_Calendarhall_busyShare (O : Nat → Option va_E) (f : Nat) (v0 : Nat) (v1 : Int) (v2 : Int) (v3 : Int) (M : xM) : Option (UInt64 × xM) :=
  (isO O M v0 12).bind fun _ =>
  xcl (f_Calendarhall_personNumbered O f v0 v1 M) fun x1 M1 =>
  xcl (f_Calendarhall_needPiece O f v2 v3 20160 M1) fun _ M2 =>
  (gR O M2 v0 12 0).bind fun x3 =>
  (gR O M2 v0 12 4).bind fun x4 =>
  (gR O M2 v0 12 0).bind fun x5 =>
  (isO O M2 x5 4).bind fun _ =>
  xcl (f_Hall_seriesOf O f x5 (jshl 1 (jand v1 31)) M2) fun x6 M3 =>
  (isO O M3 x3 4).bind fun _ =>
  xcl (f_Hall_collectOn O f x3 x4 x6 v2 v3 M3) fun _ M4 =>
  (isO O M4 v0 12).bind fun _ =>
  xcl (f_Calendarhall_countMinutes O f v0 x1 v2 v3 1 M4) fun x8 M5 =>
  if yw 1 ≤ yw x8 then (
    (isO O M5 v0 12).bind fun _ =>
    xcl (f_Calendarhall_countMinutes O f v0 x1 v2 v3 2 M5) fun x9 M6 =>
    if FP.ddiv (FP.i2d (yw x9)) (FP.i2d (yw x8)) &&& 0x7fffffffffffffff ≤ 0x7ff0000000000000 then (xlet (FP.ddiv (FP.i2d (yw x9)) (FP.i2d (yw x8))) fun x10 =>
      some (x10, M6)
    ) else none
  ) else
  some (FP.dconst0, M5)
set_option maxRecDepth 20000 in
theorem k_f_Calendarhall_busyShare (O : Nat → Option va_E) (f d : Nat) (v0 : Nat) (v1 : Int) (v2 : Int) (v3 : Int) (M : xM) : xZ oD O (d + 7) 180 0 [(0, .ref v0), (1, .int (yw v1)), (2, .int (yw v2)), (3, .int (yw v3))] [] M (f_Calendarhall_busyShare O f v0 v1 v2 v3 M) := by
  unfold f_Calendarhall_busyShare
  refine xZ.adv (me := xm180) hP_180 2 (pc' := 2) (lv' := [(0, .ref v0), (1, .int (yw v1)), (2, .int (yw v2)), (3, .int (yw v3))]) (st' := [.int (yw v1), .ref v0]) rfl ?_
  refine xZ.callv (κ := oR) (av := [.int (yw v1)]) (rest := []) (st' := fun x1 => [.ref x1]) (k0 := v0) (me := xm180) hP_180 rfl (Or.inl rfl) ⟨rfl, by decide⟩ rfl rfl (Nat.le_of_ble_eq_true rfl) (by decide) hP_148 (Nat.le_of_ble_eq_true rfl) (fun _ => rfl) (k_f_Calendarhall_personNumbered O f (d + 5) v0 v1 M) (fun x1 M1 => ?_)
  refine xZ.adv (me := xm180) hP_180 4 (pc' := 12) (lv' := [(4, .ref x1), (0, .ref v0), (1, .int (yw v1)), (2, .int (yw v2)), (3, .int (yw v3))]) (st' := [.int (20160 : Int32), .int (yw v3), .int (yw v2)]) rfl ?_
  refine xZ.eqs (lv2 := [(4, .ref x1), (0, .ref v0), (1, .int (yw v1)), (2, .int (yw v2)), (3, .int (yw v3))]) (st2 := [.int (yw 20160), .int (yw v3), .int (yw v2)]) rfl (by simp only [yl_lit, yL_lit, yw_add, yw_sub, yw_mul, yw_neg, yl_add, yl_sub, yl_mul, cj_and, cj_or, cj_xor, cj_shl, cj_shr, cj_ushr, cj_div, cj_i2c, cj_i2b, cj_dc, ck_and, ck_or, ck_xor, ck_shl, ck_shr, ck_ushr, ck_i2l, ck_l2i, ck_cmp]) ?_
  refine xZ.calls (κ := oU) (av := [.int (yw v2), .int (yw v3), .int (yw 20160)]) (rest := []) (st' := fun _ => []) (me := xm180) hP_180 rfl rfl rfl (Nat.le_of_ble_eq_true rfl) (by decide) hP_114 (Nat.le_of_ble_eq_true rfl) (fun _ => rfl) (k_f_Calendarhall_needPiece O f (d + 5) v2 v3 20160 M1) (fun _ M2 => ?_)
  refine xZ.adv (me := xm180) hP_180 1 (pc' := 16) (lv' := [(4, .ref x1), (0, .ref v0), (1, .int (yw v1)), (2, .int (yw v2)), (3, .int (yw v3))]) (st' := [.ref v0]) rfl ?_
  refine xZ.k_gR (me := xm180) hP_180 rfl (fun x3 => ?_)
  refine xZ.adv (me := xm180) hP_180 1 (pc' := 20) (lv' := [(4, .ref x1), (0, .ref v0), (1, .int (yw v1)), (2, .int (yw v2)), (3, .int (yw v3))]) (st' := [.ref v0, .ref x3]) rfl ?_
  refine xZ.k_gR (me := xm180) hP_180 rfl (fun x4 => ?_)
  refine xZ.adv (me := xm180) hP_180 1 (pc' := 24) (lv' := [(4, .ref x1), (0, .ref v0), (1, .int (yw v1)), (2, .int (yw v2)), (3, .int (yw v3))]) (st' := [.ref v0, .ref x4, .ref x3]) rfl ?_
  refine xZ.k_gR (me := xm180) hP_180 rfl (fun x5 => ?_)
  refine xZ.adv (me := xm180) hP_180 3 (pc' := 30) (lv' := [(4, .ref x1), (0, .ref v0), (1, .int (yw v1)), (2, .int (yw v2)), (3, .int (yw v3))]) (st' := [.int ((1 : Int32) <<< ((yw v1) &&& 31)), .ref x5, .ref x4, .ref x3]) rfl ?_
  refine xZ.eqs (lv2 := [(4, .ref x1), (0, .ref v0), (1, .int (yw v1)), (2, .int (yw v2)), (3, .int (yw v3))]) (st2 := [.int (yw (jshl 1 (jand v1 31))), .ref x5, .ref x4, .ref x3]) rfl (by simp only [yl_lit, yL_lit, yw_add, yw_sub, yw_mul, yw_neg, yl_add, yl_sub, yl_mul, cj_and, cj_or, cj_xor, cj_shl, cj_shr, cj_ushr, cj_div, cj_i2c, cj_i2b, cj_dc, ck_and, ck_or, ck_xor, ck_shl, ck_shr, ck_ushr, ck_i2l, ck_l2i, ck_cmp]) ?_
  refine xZ.callv (κ := oJ) (av := [.int (yw (jshl 1 (jand v1 31)))]) (rest := [.ref x4, .ref x3]) (st' := fun x6 => [.int (yw x6), .ref x4, .ref x3]) (k0 := x5) (me := xm180) hP_180 rfl (Or.inl rfl) ⟨rfl, by decide⟩ rfl rfl (Nat.le_of_ble_eq_true rfl) (by decide) hP_158 (Nat.le_of_ble_eq_true rfl) (fun _ => rfl) (k_f_Hall_seriesOf O f (d + 5) x5 (jshl 1 (jand v1 31)) M2) (fun x6 M3 => ?_)
  refine xZ.adv (me := xm180) hP_180 2 (pc' := 35) (lv' := [(4, .ref x1), (0, .ref v0), (1, .int (yw v1)), (2, .int (yw v2)), (3, .int (yw v3))]) (st' := [.int (yw v3), .int (yw v2), .int (yw x6), .ref x4, .ref x3]) rfl ?_
  refine xZ.callv (κ := oU) (av := [.ref x4, .int (yw x6), .int (yw v2), .int (yw v3)]) (rest := []) (st' := fun _ => []) (k0 := x3) (me := xm180) hP_180 rfl (Or.inl rfl) ⟨rfl, by decide⟩ rfl rfl (Nat.le_of_ble_eq_true rfl) (by decide) hP_162 (Nat.le_of_ble_eq_true rfl) (fun _ => rfl) (k_f_Hall_collectOn O f (d + 0) x3 x4 x6 v2 v3 M3) (fun _ M4 => ?_)
  refine xZ.adv (me := xm180) hP_180 5 (pc' := 44) (lv' := [(4, .ref x1), (0, .ref v0), (1, .int (yw v1)), (2, .int (yw v2)), (3, .int (yw v3))]) (st' := [.int (1 : Int32), .int (yw v3), .int (yw v2), .ref x1, .ref v0]) rfl ?_
  refine xZ.eqs (lv2 := [(4, .ref x1), (0, .ref v0), (1, .int (yw v1)), (2, .int (yw v2)), (3, .int (yw v3))]) (st2 := [.int (yw 1), .int (yw v3), .int (yw v2), .ref x1, .ref v0]) rfl (by simp only [yl_lit, yL_lit, yw_add, yw_sub, yw_mul, yw_neg, yl_add, yl_sub, yl_mul, cj_and, cj_or, cj_xor, cj_shl, cj_shr, cj_ushr, cj_div, cj_i2c, cj_i2b, cj_dc, ck_and, ck_or, ck_xor, ck_shl, ck_shr, ck_ushr, ck_i2l, ck_l2i, ck_cmp]) ?_
  refine xZ.callv (κ := oJ) (av := [.ref x1, .int (yw v2), .int (yw v3), .int (yw 1)]) (rest := []) (st' := fun x8 => [.int (yw x8)]) (k0 := v0) (me := xm180) hP_180 rfl (Or.inl rfl) ⟨rfl, by decide⟩ rfl rfl (Nat.le_of_ble_eq_true rfl) (by decide) hP_168 (Nat.le_of_ble_eq_true rfl) (fun _ => rfl) (k_f_Calendarhall_countMinutes O f (d + 1) v0 x1 v2 v3 1 M4) (fun x8 M5 => ?_)
  refine xZ.adv (me := xm180) hP_180 3 (pc' := 52) (lv' := [(5, .int (yw x8)), (4, .ref x1), (0, .ref v0), (1, .int (yw v1)), (2, .int (yw v2)), (3, .int (yw v3))]) (st' := [.int (1 : Int32), .int (yw x8)]) rfl ?_
  refine xZ.eqs (lv2 := [(5, .int (yw x8)), (4, .ref x1), (0, .ref v0), (1, .int (yw v1)), (2, .int (yw v2)), (3, .int (yw v3))]) (st2 := [.int (yw 1), .int (yw x8)]) rfl (by simp only [yl_lit, yL_lit, yw_add, yw_sub, yw_mul, yw_neg, yl_add, yl_sub, yl_mul, cj_and, cj_or, cj_xor, cj_shl, cj_shr, cj_ushr, cj_div, cj_i2c, cj_i2b, cj_dc, ck_and, ck_or, ck_xor, ck_shl, ck_shr, ck_ushr, ck_i2l, ck_l2i, ck_cmp]) ?_
  refine xZ.jc_ge (me := xm180) hP_180 rfl (fun h1 => ?_) (fun h1 => ?_)
  · skip
    refine xZ.adv (me := xm180) hP_180 5 (pc' := 63) (lv' := [(5, .int (yw x8)), (4, .ref x1), (0, .ref v0), (1, .int (yw v1)), (2, .int (yw v2)), (3, .int (yw v3))]) (st' := [.int (2 : Int32), .int (yw v3), .int (yw v2), .ref x1, .ref v0]) rfl ?_
    refine xZ.eqs (lv2 := [(5, .int (yw x8)), (4, .ref x1), (0, .ref v0), (1, .int (yw v1)), (2, .int (yw v2)), (3, .int (yw v3))]) (st2 := [.int (yw 2), .int (yw v3), .int (yw v2), .ref x1, .ref v0]) rfl (by simp only [yl_lit, yL_lit, yw_add, yw_sub, yw_mul, yw_neg, yl_add, yl_sub, yl_mul, cj_and, cj_or, cj_xor, cj_shl, cj_shr, cj_ushr, cj_div, cj_i2c, cj_i2b, cj_dc, ck_and, ck_or, ck_xor, ck_shl, ck_shr, ck_ushr, ck_i2l, ck_l2i, ck_cmp]) ?_
    refine xZ.callv (κ := oJ) (av := [.ref x1, .int (yw v2), .int (yw v3), .int (yw 2)]) (rest := []) (st' := fun x9 => [.int (yw x9)]) (k0 := v0) (me := xm180) hP_180 rfl (Or.inl rfl) ⟨rfl, by decide⟩ rfl rfl (Nat.le_of_ble_eq_true rfl) (by decide) hP_168 (Nat.le_of_ble_eq_true rfl) (fun _ => rfl) (k_f_Calendarhall_countMinutes O f (d + 1) v0 x1 v2 v3 2 M5) (fun x9 M6 => ?_)
    refine xZ.adv (me := xm180) hP_180 3 (pc' := 70) (lv' := [(5, .int (yw x8)), (4, .ref x1), (0, .ref v0), (1, .int (yw v1)), (2, .int (yw v2)), (3, .int (yw v3))]) (st' := [.double (FP.i2d (yw x8)), .double (FP.i2d (yw x9))]) rfl ?_
    refine xZ.ddiv (me := xm180) hP_180 rfl (fun x10 => ?_)
    exact xZ.retd (me := xm180) hP_180 rfl rfl
  · skip
    refine xZ.adv (me := xm180) hP_180 1 (pc' := 56) (lv' := [(5, .int (yw x8)), (4, .ref x1), (0, .ref v0), (1, .int (yw v1)), (2, .int (yw v2)), (3, .int (yw v3))]) (st' := [.double FP.dconst0]) rfl ?_
    exact xZ.retd (me := xm180) hP_180 rfl rfl
def f_Calendarhall_behindBusy (O : Nat → Option va_E) (f : Nat) (v0 : Nat) (v1 : Int) (v2 : Int) (M : xM) : Option (Int × xM) :=
  (gR O M v0 12 4).bind fun x1 =>
  (isO O M x1 2).bind fun _ =>
  xcl (f_Dates_onFrom O f x1 v1 M) fun x2 M1 =>
  if yw (v1 + v2) ≤ yw x2 then (
    some (v1, M1)
  ) else
  (gR O M1 v0 12 4).bind fun x3 =>
  (isO O M1 x3 2).bind fun _ =>
  xcl (f_Dates_offFrom O f x3 x2 M1) fun x4 M2 =>
  some (x4, M2)
set_option maxRecDepth 20000 in
theorem k_f_Calendarhall_behindBusy (O : Nat → Option va_E) (f d : Nat) (v0 : Nat) (v1 : Int) (v2 : Int) (M : xM) : xZ oJ O (d + 4) 182 0 [(0, .ref v0), (1, .int (yw v1)), (2, .int (yw v2))] [] M (f_Calendarhall_behindBusy O f v0 v1 v2 M) := by
  unfold f_Calendarhall_behindBusy
  refine xZ.adv (me := xm182) hP_182 1 (pc' := 1) (lv' := [(0, .ref v0), (1, .int (yw v1)), (2, .int (yw v2))]) (st' := [.ref v0]) rfl ?_
  refine xZ.k_gR (me := xm182) hP_182 rfl (fun x1 => ?_)
  refine xZ.adv (me := xm182) hP_182 1 (pc' := 5) (lv' := [(0, .ref v0), (1, .int (yw v1)), (2, .int (yw v2))]) (st' := [.int (yw v1), .ref x1]) rfl ?_
  refine xZ.callv (κ := oJ) (av := [.int (yw v1)]) (rest := []) (st' := fun x2 => [.int (yw x2)]) (k0 := x1) (me := xm182) hP_182 rfl (Or.inl rfl) ⟨rfl, by decide⟩ rfl rfl (Nat.le_of_ble_eq_true rfl) (by decide) hP_169 (Nat.le_of_ble_eq_true rfl) (fun _ => rfl) (k_f_Dates_onFrom O f (d + 0) x1 v1 M) (fun x2 M1 => ?_)
  refine xZ.adv (me := xm182) hP_182 5 (pc' := 13) (lv' := [(3, .int (yw x2)), (0, .ref v0), (1, .int (yw v1)), (2, .int (yw v2))]) (st' := [.int ((yw v1) + (yw v2)), .int (yw x2)]) rfl ?_
  refine xZ.eqs (lv2 := [(3, .int (yw x2)), (0, .ref v0), (1, .int (yw v1)), (2, .int (yw v2))]) (st2 := [.int (yw (v1 + v2)), .int (yw x2)]) rfl (by simp only [yl_lit, yL_lit, yw_add, yw_sub, yw_mul, yw_neg, yl_add, yl_sub, yl_mul, cj_and, cj_or, cj_xor, cj_shl, cj_shr, cj_ushr, cj_div, cj_i2c, cj_i2b, cj_dc, ck_and, ck_or, ck_xor, ck_shl, ck_shr, ck_ushr, ck_i2l, ck_l2i, ck_cmp]) ?_
  refine xZ.jc_ge (me := xm182) hP_182 rfl (fun h1 => ?_) (fun h1 => ?_)
  · skip
    refine xZ.adv (me := xm182) hP_182 1 (pc' := 28) (lv' := [(3, .int (yw x2)), (0, .ref v0), (1, .int (yw v1)), (2, .int (yw v2))]) (st' := [.int (yw v1)]) rfl ?_
    exact xZ.jreti (me := xm182) hP_182 rfl rfl
  · skip
    refine xZ.adv (me := xm182) hP_182 1 (pc' := 17) (lv' := [(3, .int (yw x2)), (0, .ref v0), (1, .int (yw v1)), (2, .int (yw v2))]) (st' := [.ref v0]) rfl ?_
    refine xZ.k_gR (me := xm182) hP_182 rfl (fun x3 => ?_)
    refine xZ.adv (me := xm182) hP_182 1 (pc' := 21) (lv' := [(3, .int (yw x2)), (0, .ref v0), (1, .int (yw v1)), (2, .int (yw v2))]) (st' := [.int (yw x2), .ref x3]) rfl ?_
    refine xZ.callv (κ := oJ) (av := [.int (yw x2)]) (rest := []) (st' := fun x4 => [.int (yw x4)]) (k0 := x3) (me := xm182) hP_182 rfl (Or.inl rfl) ⟨rfl, by decide⟩ rfl rfl (Nat.le_of_ble_eq_true rfl) (by decide) hP_178 (Nat.le_of_ble_eq_true rfl) (fun _ => rfl) (k_f_Dates_offFrom O f (d + 0) x3 x2 M1) (fun x4 M2 => ?_)
    refine xZ.adv (me := xm182) hP_182 1 (pc' := 28) (lv' := [(3, .int (yw x2)), (0, .ref v0), (1, .int (yw v1)), (2, .int (yw v2))]) (st' := [.int (yw x4)]) rfl ?_
    exact xZ.jreti (me := xm182) hP_182 rfl rfl
def f_Calendarhall_behindIdle_3 (O : Nat → Option va_E) (f : Nat) : Nat → Nat → Int → Int → Int → Int → Int → xM → Option (Int × xM)
  | 0, _, _, _, _, _, _, _ => none
  | n + 1, v0, v1, v2, v3, v4, v5, M =>
    if yw 8 ≤ yw v5 then (
      some (v2, M)
    ) else
    if yw (jand (jshr v1 (jand v5 31)) 1) = yw 0 then (
      f_Calendarhall_behindIdle_3 O f n v0 v1 v2 v3 v4 (v5 + 1) M
    ) else
    (gR O M v0 12 0).bind fun x1 =>
    (isO O M x1 4).bind fun _ =>
    xcl (f_Hall_anyPerson O f x1 v5 M) fun x2 M1 =>
    (gR O M1 v0 12 0).bind fun x3 =>
    (gJ O M1 x2 6 0).bind fun x4 =>
    (isO O M1 x3 4).bind fun _ =>
    xcl (f_Hall_anyZone O f x3 x4 M1) fun x5 M2 =>
    (isO O M2 x2 6).bind fun _ =>
    xcl (f_Person_idleFrom O f x2 x5 v2 v4 M2) fun x6 M3 =>
    if yw (v2 + v3) ≤ yw x6 then (
      f_Calendarhall_behindIdle_3 O f n v0 v1 v2 v3 v4 (v5 + 1) M3
    ) else
    (isO O M3 x2 6).bind fun _ =>
    xcl (f_Person_workFrom O f x2 x5 x6 v4 M3) fun x7 M4 =>
    some (x7, M4)
set_option maxRecDepth 20000 in
theorem k_f_Calendarhall_behindIdle_3 (O : Nat → Option va_E) (f d : Nat) : ∀ (n : Nat) (v0 : Nat) (v1 : Int) (v2 : Int) (v3 : Int) (v4 : Int) (v5 : Int) (M : xM), xZ oJ O (d + 5) 183 3 [(0, .ref v0), (1, .int (yw v1)), (2, .int (yw v2)), (3, .int (yw v3)), (4, .int (yw v4)), (5, .int (yw v5))] [] M (f_Calendarhall_behindIdle_3 O f n v0 v1 v2 v3 v4 v5 M) := by
  intro n
  induction n with
  | zero =>
    intro v0 v1 v2 v3 v4 v5 M
    exact xZ.no
  | succ n ih =>
    intro v0 v1 v2 v3 v4 v5 M
    unfold f_Calendarhall_behindIdle_3
    refine xZ.adv (me := xm183) hP_183 2 (pc' := 7) (lv' := [(0, .ref v0), (1, .int (yw v1)), (2, .int (yw v2)), (3, .int (yw v3)), (4, .int (yw v4)), (5, .int (yw v5))]) (st' := [.int (8 : Int32), .int (yw v5)]) rfl ?_
    refine xZ.eqs (lv2 := [(0, .ref v0), (1, .int (yw v1)), (2, .int (yw v2)), (3, .int (yw v3)), (4, .int (yw v4)), (5, .int (yw v5))]) (st2 := [.int (yw 8), .int (yw v5)]) rfl (by simp only [yl_lit, yL_lit, yw_add, yw_sub, yw_mul, yw_neg, yl_add, yl_sub, yl_mul, cj_and, cj_or, cj_xor, cj_shl, cj_shr, cj_ushr, cj_div, cj_i2c, cj_i2b, cj_dc, ck_and, ck_or, ck_xor, ck_shl, ck_shr, ck_ushr, ck_i2l, ck_l2i, ck_cmp]) ?_
    refine xZ.jc_ge (me := xm183) hP_183 rfl (fun h1 => ?_) (fun h1 => ?_)
    · skip
      refine xZ.adv (me := xm183) hP_183 1 (pc' := 86) (lv' := [(0, .ref v0), (1, .int (yw v1)), (2, .int (yw v2)), (3, .int (yw v3)), (4, .int (yw v4)), (5, .int (yw v5))]) (st' := [.int (yw v2)]) rfl ?_
      exact xZ.jreti (me := xm183) hP_183 rfl rfl
    · skip
      refine xZ.adv (me := xm183) hP_183 5 (pc' := 16) (lv' := [(0, .ref v0), (1, .int (yw v1)), (2, .int (yw v2)), (3, .int (yw v3)), (4, .int (yw v4)), (5, .int (yw v5))]) (st' := [.int (((yw v1) >>> ((yw v5) &&& 31)) &&& (1 : Int32))]) rfl ?_
      refine xZ.eqs (lv2 := [(0, .ref v0), (1, .int (yw v1)), (2, .int (yw v2)), (3, .int (yw v3)), (4, .int (yw v4)), (5, .int (yw v5))]) (st2 := [.int (yw (jand (jshr v1 (jand v5 31)) 1))]) rfl (by simp only [yl_lit, yL_lit, yw_add, yw_sub, yw_mul, yw_neg, yl_add, yl_sub, yl_mul, cj_and, cj_or, cj_xor, cj_shl, cj_shr, cj_ushr, cj_div, cj_i2c, cj_i2b, cj_dc, ck_and, ck_or, ck_xor, ck_shl, ck_shr, ck_ushr, ck_i2l, ck_l2i, ck_cmp]) ?_
      refine xZ.jf_ne (me := xm183) hP_183 rfl (fun h2 => ?_) (fun h2 => ?_)
      · skip
        refine xZ.adv (me := xm183) hP_183 3 (pc' := 3) (lv' := [(5, .int ((yw v5) + (1 : Int32))), (0, .ref v0), (1, .int (yw v1)), (2, .int (yw v2)), (3, .int (yw v3)), (4, .int (yw v4))]) (st' := []) rfl ?_
        refine xZ.eqs (lv2 := [(5, .int (yw (v5 + 1))), (0, .ref v0), (1, .int (yw v1)), (2, .int (yw v2)), (3, .int (yw v3)), (4, .int (yw v4))]) (st2 := []) (by simp only [yl_lit, yL_lit, yw_add, yw_sub, yw_mul, yw_neg, yl_add, yl_sub, yl_mul, cj_and, cj_or, cj_xor, cj_shl, cj_shr, cj_ushr, cj_div, cj_i2c, cj_i2b, cj_dc, ck_and, ck_or, ck_xor, ck_shl, ck_shr, ck_ushr, ck_i2l, ck_l2i, ck_cmp]) rfl ?_
        exact xZ.sub (xsc (.tail _ (.head _)) (xsc (.tail _ (.tail _ (.head _))) (xsc (.tail _ (.tail _ (.tail _ (.head _)))) (xsc (.tail _ (.tail _ (.tail _ (.tail _ (.head _))))) (xsc (.tail _ (.tail _ (.tail _ (.tail _ (.tail _ (.head _)))))) (xsc (.head _) xsn)))))) (show ([5, 0, 1, 2, 3, 4] : List Nat).Nodup from by decide) (ih v0 v1 v2 v3 v4 (v5 + 1) M)
      · skip
        refine xZ.adv (me := xm183) hP_183 1 (pc' := 23) (lv' := [(0, .ref v0), (1, .int (yw v1)), (2, .int (yw v2)), (3, .int (yw v3)), (4, .int (yw v4)), (5, .int (yw v5))]) (st' := [.ref v0]) rfl ?_
        refine xZ.k_gR (me := xm183) hP_183 rfl (fun x1 => ?_)
        refine xZ.adv (me := xm183) hP_183 1 (pc' := 28) (lv' := [(0, .ref v0), (1, .int (yw v1)), (2, .int (yw v2)), (3, .int (yw v3)), (4, .int (yw v4)), (5, .int (yw v5))]) (st' := [.int (yw v5), .ref x1]) rfl ?_
        refine xZ.callv (κ := oR) (av := [.int (yw v5)]) (rest := []) (st' := fun x2 => [.ref x2]) (k0 := x1) (me := xm183) hP_183 rfl (Or.inl rfl) ⟨rfl, by decide⟩ rfl rfl (Nat.le_of_ble_eq_true rfl) (by decide) hP_26 (Nat.le_of_ble_eq_true rfl) (fun _ => rfl) (k_f_Hall_anyPerson O f (d + 4) x1 v5 M) (fun x2 M1 => ?_)
        refine xZ.adv (me := xm183) hP_183 2 (pc' := 34) (lv' := [(6, .ref x2), (0, .ref v0), (1, .int (yw v1)), (2, .int (yw v2)), (3, .int (yw v3)), (4, .int (yw v4)), (5, .int (yw v5))]) (st' := [.ref v0]) rfl ?_
        refine xZ.k_gR (me := xm183) hP_183 rfl (fun x3 => ?_)
        refine xZ.adv (me := xm183) hP_183 1 (pc' := 39) (lv' := [(6, .ref x2), (0, .ref v0), (1, .int (yw v1)), (2, .int (yw v2)), (3, .int (yw v3)), (4, .int (yw v4)), (5, .int (yw v5))]) (st' := [.ref x2, .ref x3]) rfl ?_
        refine xZ.k_gJ (me := xm183) hP_183 rfl (fun x4 => ?_)
        refine xZ.callv (κ := oR) (av := [.int (yw x4)]) (rest := []) (st' := fun x5 => [.ref x5]) (k0 := x3) (me := xm183) hP_183 rfl (Or.inl rfl) ⟨rfl, by decide⟩ rfl rfl (Nat.le_of_ble_eq_true rfl) (by decide) hP_21 (Nat.le_of_ble_eq_true rfl) (fun _ => rfl) (k_f_Hall_anyZone O f (d + 4) x3 x4 M1) (fun x5 M2 => ?_)
        refine xZ.adv (me := xm183) hP_183 5 (pc' := 54) (lv' := [(7, .ref x5), (6, .ref x2), (0, .ref v0), (1, .int (yw v1)), (2, .int (yw v2)), (3, .int (yw v3)), (4, .int (yw v4)), (5, .int (yw v5))]) (st' := [.int (yw v4), .int (yw v2), .ref x5, .ref x2]) rfl ?_
        refine xZ.callv (κ := oJ) (av := [.ref x5, .int (yw v2), .int (yw v4)]) (rest := []) (st' := fun x6 => [.int (yw x6)]) (k0 := x2) (me := xm183) hP_183 rfl (Or.inl rfl) ⟨rfl, by decide⟩ rfl rfl (Nat.le_of_ble_eq_true rfl) (by decide) hP_179 (Nat.le_of_ble_eq_true rfl) (fun _ => rfl) (k_f_Person_idleFrom O f (d + 0) x2 x5 v2 v4 M2) (fun x6 M3 => ?_)
        refine xZ.adv (me := xm183) hP_183 5 (pc' := 64) (lv' := [(8, .int (yw x6)), (7, .ref x5), (6, .ref x2), (0, .ref v0), (1, .int (yw v1)), (2, .int (yw v2)), (3, .int (yw v3)), (4, .int (yw v4)), (5, .int (yw v5))]) (st' := [.int ((yw v2) + (yw v3)), .int (yw x6)]) rfl ?_
        refine xZ.eqs (lv2 := [(8, .int (yw x6)), (7, .ref x5), (6, .ref x2), (0, .ref v0), (1, .int (yw v1)), (2, .int (yw v2)), (3, .int (yw v3)), (4, .int (yw v4)), (5, .int (yw v5))]) (st2 := [.int (yw (v2 + v3)), .int (yw x6)]) rfl (by simp only [yl_lit, yL_lit, yw_add, yw_sub, yw_mul, yw_neg, yl_add, yl_sub, yl_mul, cj_and, cj_or, cj_xor, cj_shl, cj_shr, cj_ushr, cj_div, cj_i2c, cj_i2b, cj_dc, ck_and, ck_or, ck_xor, ck_shl, ck_shr, ck_ushr, ck_i2l, ck_l2i, ck_cmp]) ?_
        refine xZ.jc_ge (me := xm183) hP_183 rfl (fun h3 => ?_) (fun h3 => ?_)
        · skip
          refine xZ.adv (me := xm183) hP_183 2 (pc' := 3) (lv' := [(5, .int ((yw v5) + (1 : Int32))), (8, .int (yw x6)), (7, .ref x5), (6, .ref x2), (0, .ref v0), (1, .int (yw v1)), (2, .int (yw v2)), (3, .int (yw v3)), (4, .int (yw v4))]) (st' := []) rfl ?_
          refine xZ.eqs (lv2 := [(5, .int (yw (v5 + 1))), (8, .int (yw x6)), (7, .ref x5), (6, .ref x2), (0, .ref v0), (1, .int (yw v1)), (2, .int (yw v2)), (3, .int (yw v3)), (4, .int (yw v4))]) (st2 := []) (by simp only [yl_lit, yL_lit, yw_add, yw_sub, yw_mul, yw_neg, yl_add, yl_sub, yl_mul, cj_and, cj_or, cj_xor, cj_shl, cj_shr, cj_ushr, cj_div, cj_i2c, cj_i2b, cj_dc, ck_and, ck_or, ck_xor, ck_shl, ck_shr, ck_ushr, ck_i2l, ck_l2i, ck_cmp]) rfl ?_
          exact xZ.sub (xsc (.tail _ (.tail _ (.tail _ (.tail _ (.head _))))) (xsc (.tail _ (.tail _ (.tail _ (.tail _ (.tail _ (.head _)))))) (xsc (.tail _ (.tail _ (.tail _ (.tail _ (.tail _ (.tail _ (.head _))))))) (xsc (.tail _ (.tail _ (.tail _ (.tail _ (.tail _ (.tail _ (.tail _ (.head _)))))))) (xsc (.tail _ (.tail _ (.tail _ (.tail _ (.tail _ (.tail _ (.tail _ (.tail _ (.head _))))))))) (xsc (.head _) xsn)))))) (show ([5, 8, 7, 6, 0, 1, 2, 3, 4] : List Nat).Nodup from by decide) (ih v0 v1 v2 v3 v4 (v5 + 1) M3)
        · skip
          refine xZ.adv (me := xm183) hP_183 4 (pc' := 75) (lv' := [(8, .int (yw x6)), (7, .ref x5), (6, .ref x2), (0, .ref v0), (1, .int (yw v1)), (2, .int (yw v2)), (3, .int (yw v3)), (4, .int (yw v4)), (5, .int (yw v5))]) (st' := [.int (yw v4), .int (yw x6), .ref x5, .ref x2]) rfl ?_
          refine xZ.callv (κ := oJ) (av := [.ref x5, .int (yw x6), .int (yw v4)]) (rest := []) (st' := fun x7 => [.int (yw x7)]) (k0 := x2) (me := xm183) hP_183 rfl (Or.inl rfl) ⟨rfl, by decide⟩ rfl rfl (Nat.le_of_ble_eq_true rfl) (by decide) hP_175 (Nat.le_of_ble_eq_true rfl) (fun _ => rfl) (k_f_Person_workFrom O f (d + 0) x2 x5 x6 v4 M3) (fun x7 M4 => ?_)
          exact xZ.jreti (me := xm183) hP_183 rfl rfl
def f_Calendarhall_behindIdle (O : Nat → Option va_E) (f : Nat) (v0 : Nat) (v1 : Int) (v2 : Int) (v3 : Int) (v4 : Int) (M : xM) : Option (Int × xM) :=
  f_Calendarhall_behindIdle_3 O f f v0 v1 v2 v3 v4 0 M
set_option maxRecDepth 20000 in
theorem k_f_Calendarhall_behindIdle (O : Nat → Option va_E) (f d : Nat) (v0 : Nat) (v1 : Int) (v2 : Int) (v3 : Int) (v4 : Int) (M : xM) : xZ oJ O (d + 5) 183 0 [(0, .ref v0), (1, .int (yw v1)), (2, .int (yw v2)), (3, .int (yw v3)), (4, .int (yw v4))] [] M (f_Calendarhall_behindIdle O f v0 v1 v2 v3 v4 M) := by
  unfold f_Calendarhall_behindIdle
  refine xZ.adv (me := xm183) hP_183 2 (pc' := 3) (lv' := [(5, .int (0 : Int32)), (0, .ref v0), (1, .int (yw v1)), (2, .int (yw v2)), (3, .int (yw v3)), (4, .int (yw v4))]) (st' := []) rfl ?_
  refine xZ.eqs (lv2 := [(5, .int (yw 0)), (0, .ref v0), (1, .int (yw v1)), (2, .int (yw v2)), (3, .int (yw v3)), (4, .int (yw v4))]) (st2 := []) (by simp only [yl_lit, yL_lit, yw_add, yw_sub, yw_mul, yw_neg, yl_add, yl_sub, yl_mul, cj_and, cj_or, cj_xor, cj_shl, cj_shr, cj_ushr, cj_div, cj_i2c, cj_i2b, cj_dc, ck_and, ck_or, ck_xor, ck_shl, ck_shr, ck_ushr, ck_i2l, ck_l2i, ck_cmp]) rfl ?_
  exact xZ.sub (xsc (.tail _ (.head _)) (xsc (.tail _ (.tail _ (.head _))) (xsc (.tail _ (.tail _ (.tail _ (.head _)))) (xsc (.tail _ (.tail _ (.tail _ (.tail _ (.head _))))) (xsc (.tail _ (.tail _ (.tail _ (.tail _ (.tail _ (.head _)))))) (xsc (.head _) xsn)))))) (show ([5, 0, 1, 2, 3, 4] : List Nat).Nodup from by decide) (k_f_Calendarhall_behindIdle_3 O f d f v0 v1 v2 v3 v4 0 M)
def f_Calendarhall_freeNext_103 (O : Nat → Option va_E) (f : Nat) (K52 : Nat → Int → Int → Int → Int → Int → Int → xM → Option (Int × xM)) (v0 : Nat) (v1 : Int) (v3 : Int) (v4 : Int) (v5 : Int) (v6 : Int) (v7 : Int) (v8 : Int) (M : xM) : Option (Int × xM) :=
  if yw v8 = yw v6 then (
    some (v6, M)
  ) else
  K52 v0 v1 v3 v4 v5 v8 (v7 + 1) M
set_option maxRecDepth 20000 in
theorem k_f_Calendarhall_freeNext_103 (O : Nat → Option va_E) (f d : Nat) (K52 : Nat → Int → Int → Int → Int → Int → Int → xM → Option (Int × xM)) (hK52 : ∀ (v0 : Nat) (v1 : Int) (v3 : Int) (v4 : Int) (v5 : Int) (v6 : Int) (v7 : Int) M, xZ oJ O (d + 7) 181 52 [(0, .ref v0), (1, .int (yw v1)), (3, .int (yw v3)), (4, .int (yw v4)), (5, .int (yw v5)), (6, .int (yw v6)), (7, .int (yw v7))] [] M (K52 v0 v1 v3 v4 v5 v6 v7 M)) (v0 : Nat) (v1 : Int) (v3 : Int) (v4 : Int) (v5 : Int) (v6 : Int) (v7 : Int) (v8 : Int) (M : xM) : xZ oJ O (d + 7) 181 103 [(0, .ref v0), (1, .int (yw v1)), (3, .int (yw v3)), (4, .int (yw v4)), (5, .int (yw v5)), (6, .int (yw v6)), (7, .int (yw v7)), (8, .int (yw v8))] [] M (f_Calendarhall_freeNext_103 O f K52 v0 v1 v3 v4 v5 v6 v7 v8 M) := by
  unfold f_Calendarhall_freeNext_103
  refine xZ.adv (me := xm181) hP_181 2 (pc' := 107) (lv' := [(0, .ref v0), (1, .int (yw v1)), (3, .int (yw v3)), (4, .int (yw v4)), (5, .int (yw v5)), (6, .int (yw v6)), (7, .int (yw v7)), (8, .int (yw v8))]) (st' := [.int (yw v6), .int (yw v8)]) rfl ?_
  refine xZ.jc_ne (me := xm181) hP_181 rfl (fun h1 => ?_) (fun h1 => ?_)
  · skip
    refine xZ.adv (me := xm181) hP_181 1 (pc' := 112) (lv' := [(0, .ref v0), (1, .int (yw v1)), (3, .int (yw v3)), (4, .int (yw v4)), (5, .int (yw v5)), (6, .int (yw v6)), (7, .int (yw v7)), (8, .int (yw v8))]) (st' := [.int (yw v6)]) rfl ?_
    exact xZ.jreti (me := xm181) hP_181 rfl rfl
  · skip
    refine xZ.adv (me := xm181) hP_181 4 (pc' := 52) (lv' := [(7, .int ((yw v7) + (1 : Int32))), (6, .int (yw v8)), (0, .ref v0), (1, .int (yw v1)), (3, .int (yw v3)), (4, .int (yw v4)), (5, .int (yw v5)), (8, .int (yw v8))]) (st' := []) rfl ?_
    refine xZ.eqs (lv2 := [(7, .int (yw (v7 + 1))), (6, .int (yw v8)), (0, .ref v0), (1, .int (yw v1)), (3, .int (yw v3)), (4, .int (yw v4)), (5, .int (yw v5)), (8, .int (yw v8))]) (st2 := []) (by simp only [yl_lit, yL_lit, yw_add, yw_sub, yw_mul, yw_neg, yl_add, yl_sub, yl_mul, cj_and, cj_or, cj_xor, cj_shl, cj_shr, cj_ushr, cj_div, cj_i2c, cj_i2b, cj_dc, ck_and, ck_or, ck_xor, ck_shl, ck_shr, ck_ushr, ck_i2l, ck_l2i, ck_cmp]) rfl ?_
    exact xZ.sub (xsc (.tail _ (.tail _ (.head _))) (xsc (.tail _ (.tail _ (.tail _ (.head _)))) (xsc (.tail _ (.tail _ (.tail _ (.tail _ (.head _))))) (xsc (.tail _ (.tail _ (.tail _ (.tail _ (.tail _ (.head _)))))) (xsc (.tail _ (.tail _ (.tail _ (.tail _ (.tail _ (.tail _ (.head _))))))) (xsc (.tail _ (.head _)) (xsc (.head _) xsn))))))) (show ([7, 6, 0, 1, 3, 4, 5, 8] : List Nat).Nodup from by decide) (hK52 v0 v1 v3 v4 v5 v8 (v7 + 1) M)
def f_Calendarhall_freeNext_52 (O : Nat → Option va_E) (f : Nat) : Nat → Nat → Int → Int → Int → Int → Int → Int → xM → Option (Int × xM)
  | 0, _, _, _, _, _, _, _, _ => none
  | n + 1, v0, v1, v3, v4, v5, v6, v7, M =>
    if yw 20160 < yw v7 then (
      some ((-1), M)
    ) else
    if yw v3 < yw (v6 + v4) then (
      some ((-1), M)
    ) else
    (isO O M v0 12).bind fun _ =>
    xcl (f_Calendarhall_behindBusy O f v0 v6 v4 M) fun x1 M1 =>
    if yw x1 = yw v6 then (
      if yw v5 = yw 0 then (
        f_Calendarhall_freeNext_103 O f (f_Calendarhall_freeNext_52 O f n) v0 v1 v3 v4 v5 v6 v7 x1 M1
      ) else
      (isO O M1 v0 12).bind fun _ =>
      xcl (f_Calendarhall_behindIdle O f v0 v1 v6 v4 v3 M1) fun x2 M2 =>
      f_Calendarhall_freeNext_103 O f (f_Calendarhall_freeNext_52 O f n) v0 v1 v3 v4 v5 v6 v7 x2 M2
    ) else
    f_Calendarhall_freeNext_103 O f (f_Calendarhall_freeNext_52 O f n) v0 v1 v3 v4 v5 v6 v7 x1 M1
set_option maxRecDepth 20000 in
theorem k_f_Calendarhall_freeNext_52 (O : Nat → Option va_E) (f d : Nat) : ∀ (n : Nat) (v0 : Nat) (v1 : Int) (v3 : Int) (v4 : Int) (v5 : Int) (v6 : Int) (v7 : Int) (M : xM), xZ oJ O (d + 7) 181 52 [(0, .ref v0), (1, .int (yw v1)), (3, .int (yw v3)), (4, .int (yw v4)), (5, .int (yw v5)), (6, .int (yw v6)), (7, .int (yw v7))] [] M (f_Calendarhall_freeNext_52 O f n v0 v1 v3 v4 v5 v6 v7 M) := by
  intro n
  induction n with
  | zero =>
    intro v0 v1 v3 v4 v5 v6 v7 M
    exact xZ.no
  | succ n ih =>
    intro v0 v1 v3 v4 v5 v6 v7 M
    unfold f_Calendarhall_freeNext_52
    refine xZ.adv (me := xm181) hP_181 2 (pc' := 57) (lv' := [(0, .ref v0), (1, .int (yw v1)), (3, .int (yw v3)), (4, .int (yw v4)), (5, .int (yw v5)), (6, .int (yw v6)), (7, .int (yw v7))]) (st' := [.int (20160 : Int32), .int (yw v7)]) rfl ?_
    refine xZ.eqs (lv2 := [(0, .ref v0), (1, .int (yw v1)), (3, .int (yw v3)), (4, .int (yw v4)), (5, .int (yw v5)), (6, .int (yw v6)), (7, .int (yw v7))]) (st2 := [.int (yw 20160), .int (yw v7)]) rfl (by simp only [yl_lit, yL_lit, yw_add, yw_sub, yw_mul, yw_neg, yl_add, yl_sub, yl_mul, cj_and, cj_or, cj_xor, cj_shl, cj_shr, cj_ushr, cj_div, cj_i2c, cj_i2b, cj_dc, ck_and, ck_or, ck_xor, ck_shl, ck_shr, ck_ushr, ck_i2l, ck_l2i, ck_cmp]) ?_
    refine xZ.jc_gt (me := xm181) hP_181 rfl (fun h1 => ?_) (fun h1 => ?_)
    · skip
      refine xZ.adv (me := xm181) hP_181 1 (pc' := 124) (lv' := [(0, .ref v0), (1, .int (yw v1)), (3, .int (yw v3)), (4, .int (yw v4)), (5, .int (yw v5)), (6, .int (yw v6)), (7, .int (yw v7))]) (st' := [.int (-1 : Int32)]) rfl ?_
      refine xZ.eqs (lv2 := [(0, .ref v0), (1, .int (yw v1)), (3, .int (yw v3)), (4, .int (yw v4)), (5, .int (yw v5)), (6, .int (yw v6)), (7, .int (yw v7))]) (st2 := [.int (yw (-1))]) rfl (by simp only [yl_lit, yL_lit, yw_add, yw_sub, yw_mul, yw_neg, yl_add, yl_sub, yl_mul, cj_and, cj_or, cj_xor, cj_shl, cj_shr, cj_ushr, cj_div, cj_i2c, cj_i2b, cj_dc, ck_and, ck_or, ck_xor, ck_shl, ck_shr, ck_ushr, ck_i2l, ck_l2i, ck_cmp]) ?_
      exact xZ.jreti (me := xm181) hP_181 rfl rfl
    · skip
      refine xZ.adv (me := xm181) hP_181 4 (pc' := 66) (lv' := [(0, .ref v0), (1, .int (yw v1)), (3, .int (yw v3)), (4, .int (yw v4)), (5, .int (yw v5)), (6, .int (yw v6)), (7, .int (yw v7))]) (st' := [.int (yw v3), .int ((yw v6) + (yw v4))]) rfl ?_
      refine xZ.eqs (lv2 := [(0, .ref v0), (1, .int (yw v1)), (3, .int (yw v3)), (4, .int (yw v4)), (5, .int (yw v5)), (6, .int (yw v6)), (7, .int (yw v7))]) (st2 := [.int (yw v3), .int (yw (v6 + v4))]) rfl (by simp only [yl_lit, yL_lit, yw_add, yw_sub, yw_mul, yw_neg, yl_add, yl_sub, yl_mul, cj_and, cj_or, cj_xor, cj_shl, cj_shr, cj_ushr, cj_div, cj_i2c, cj_i2b, cj_dc, ck_and, ck_or, ck_xor, ck_shl, ck_shr, ck_ushr, ck_i2l, ck_l2i, ck_cmp]) ?_
      refine xZ.jc_gt (me := xm181) hP_181 rfl (fun h2 => ?_) (fun h2 => ?_)
      · skip
        refine xZ.adv (me := xm181) hP_181 1 (pc' := 124) (lv' := [(0, .ref v0), (1, .int (yw v1)), (3, .int (yw v3)), (4, .int (yw v4)), (5, .int (yw v5)), (6, .int (yw v6)), (7, .int (yw v7))]) (st' := [.int (-1 : Int32)]) rfl ?_
        refine xZ.eqs (lv2 := [(0, .ref v0), (1, .int (yw v1)), (3, .int (yw v3)), (4, .int (yw v4)), (5, .int (yw v5)), (6, .int (yw v6)), (7, .int (yw v7))]) (st2 := [.int (yw (-1))]) rfl (by simp only [yl_lit, yL_lit, yw_add, yw_sub, yw_mul, yw_neg, yl_add, yl_sub, yl_mul, cj_and, cj_or, cj_xor, cj_shl, cj_shr, cj_ushr, cj_div, cj_i2c, cj_i2b, cj_dc, ck_and, ck_or, ck_xor, ck_shl, ck_shr, ck_ushr, ck_i2l, ck_l2i, ck_cmp]) ?_
        exact xZ.jreti (me := xm181) hP_181 rfl rfl
      · skip
        refine xZ.adv (me := xm181) hP_181 3 (pc' := 74) (lv' := [(0, .ref v0), (1, .int (yw v1)), (3, .int (yw v3)), (4, .int (yw v4)), (5, .int (yw v5)), (6, .int (yw v6)), (7, .int (yw v7))]) (st' := [.int (yw v4), .int (yw v6), .ref v0]) rfl ?_
        refine xZ.callv (κ := oJ) (av := [.int (yw v6), .int (yw v4)]) (rest := []) (st' := fun x1 => [.int (yw x1)]) (k0 := v0) (me := xm181) hP_181 rfl (Or.inl rfl) ⟨rfl, by decide⟩ rfl rfl (Nat.le_of_ble_eq_true rfl) (by decide) hP_182 (Nat.le_of_ble_eq_true rfl) (fun _ => rfl) (k_f_Calendarhall_behindBusy O f (d + 2) v0 v6 v4 M) (fun x1 M1 => ?_)
        refine xZ.adv (me := xm181) hP_181 3 (pc' := 83) (lv' := [(8, .int (yw x1)), (0, .ref v0), (1, .int (yw v1)), (3, .int (yw v3)), (4, .int (yw v4)), (5, .int (yw v5)), (6, .int (yw v6)), (7, .int (yw v7))]) (st' := [.int (yw v6), .int (yw x1)]) rfl ?_
        refine xZ.jc_ne (me := xm181) hP_181 rfl (fun h3 => ?_) (fun h3 => ?_)
        · skip
          refine xZ.adv (me := xm181) hP_181 1 (pc' := 88) (lv' := [(8, .int (yw x1)), (0, .ref v0), (1, .int (yw v1)), (3, .int (yw v3)), (4, .int (yw v4)), (5, .int (yw v5)), (6, .int (yw v6)), (7, .int (yw v7))]) (st' := [.int (yw v5)]) rfl ?_
          refine xZ.jf_eq (me := xm181) hP_181 rfl (fun h4 => ?_) (fun h4 => ?_)
          · skip
            exact xZ.sub (xsc (.tail _ (.head _)) (xsc (.tail _ (.tail _ (.head _))) (xsc (.tail _ (.tail _ (.tail _ (.head _)))) (xsc (.tail _ (.tail _ (.tail _ (.tail _ (.head _))))) (xsc (.tail _ (.tail _ (.tail _ (.tail _ (.tail _ (.head _)))))) (xsc (.tail _ (.tail _ (.tail _ (.tail _ (.tail _ (.tail _ (.head _))))))) (xsc (.tail _ (.tail _ (.tail _ (.tail _ (.tail _ (.tail _ (.tail _ (.head _)))))))) (xsc (.head _) xsn)))))))) (show ([8, 0, 1, 3, 4, 5, 6, 7] : List Nat).Nodup from by decide) (k_f_Calendarhall_freeNext_103 O f d (f_Calendarhall_freeNext_52 O f n) ih v0 v1 v3 v4 v5 v6 v7 x1 M1)
          · skip
            refine xZ.adv (me := xm181) hP_181 5 (pc' := 98) (lv' := [(8, .int (yw x1)), (0, .ref v0), (1, .int (yw v1)), (3, .int (yw v3)), (4, .int (yw v4)), (5, .int (yw v5)), (6, .int (yw v6)), (7, .int (yw v7))]) (st' := [.int (yw v3), .int (yw v4), .int (yw v6), .int (yw v1), .ref v0]) rfl ?_
            refine xZ.callv (κ := oJ) (av := [.int (yw v1), .int (yw v6), .int (yw v4), .int (yw v3)]) (rest := []) (st' := fun x2 => [.int (yw x2)]) (k0 := v0) (me := xm181) hP_181 rfl (Or.inl rfl) ⟨rfl, by decide⟩ rfl rfl (Nat.le_of_ble_eq_true rfl) (by decide) hP_183 (Nat.le_of_ble_eq_true rfl) (fun _ => rfl) (k_f_Calendarhall_behindIdle O f (d + 1) v0 v1 v6 v4 v3 M1) (fun x2 M2 => ?_)
            refine xZ.adv (me := xm181) hP_181 1 (pc' := 103) (lv' := [(8, .int (yw x2)), (0, .ref v0), (1, .int (yw v1)), (3, .int (yw v3)), (4, .int (yw v4)), (5, .int (yw v5)), (6, .int (yw v6)), (7, .int (yw v7))]) (st' := []) rfl ?_
            exact xZ.sub (xsc (.tail _ (.head _)) (xsc (.tail _ (.tail _ (.head _))) (xsc (.tail _ (.tail _ (.tail _ (.head _)))) (xsc (.tail _ (.tail _ (.tail _ (.tail _ (.head _))))) (xsc (.tail _ (.tail _ (.tail _ (.tail _ (.tail _ (.head _)))))) (xsc (.tail _ (.tail _ (.tail _ (.tail _ (.tail _ (.tail _ (.head _))))))) (xsc (.tail _ (.tail _ (.tail _ (.tail _ (.tail _ (.tail _ (.tail _ (.head _)))))))) (xsc (.head _) xsn)))))))) (show ([8, 0, 1, 3, 4, 5, 6, 7] : List Nat).Nodup from by decide) (k_f_Calendarhall_freeNext_103 O f d (f_Calendarhall_freeNext_52 O f n) ih v0 v1 v3 v4 v5 v6 v7 x2 M2)
        · skip
          exact xZ.sub (xsc (.tail _ (.head _)) (xsc (.tail _ (.tail _ (.head _))) (xsc (.tail _ (.tail _ (.tail _ (.head _)))) (xsc (.tail _ (.tail _ (.tail _ (.tail _ (.head _))))) (xsc (.tail _ (.tail _ (.tail _ (.tail _ (.tail _ (.head _)))))) (xsc (.tail _ (.tail _ (.tail _ (.tail _ (.tail _ (.tail _ (.head _))))))) (xsc (.tail _ (.tail _ (.tail _ (.tail _ (.tail _ (.tail _ (.tail _ (.head _)))))))) (xsc (.head _) xsn)))))))) (show ([8, 0, 1, 3, 4, 5, 6, 7] : List Nat).Nodup from by decide) (k_f_Calendarhall_freeNext_103 O f d (f_Calendarhall_freeNext_52 O f n) ih v0 v1 v3 v4 v5 v6 v7 x1 M1)
def f_Calendarhall_freeNext (O : Nat → Option va_E) (f : Nat) (v0 : Nat) (v1 : Int) (v2 : Int) (v3 : Int) (v4 : Int) (v5 : Int) (M : xM) : Option (Int × xM) :=
  xcl (f_Calendarhall_needRange O f v1 1 255 M) fun _ M1 =>
  xcl (f_Calendarhall_needPiece O f v2 v3 20160 M1) fun _ M2 =>
  xcl (f_Calendarhall_needRange O f v4 1 600 M2) fun _ M3 =>
  (gR O M3 v0 12 0).bind fun x4 =>
  (gR O M3 v0 12 4).bind fun x5 =>
  (gR O M3 v0 12 0).bind fun x6 =>
  (isO O M3 x6 4).bind fun _ =>
  xcl (f_Hall_seriesOf O f x6 v1 M3) fun x7 M4 =>
  (isO O M4 x4 4).bind fun _ =>
  xcl (f_Hall_collectOn O f x4 x5 x7 v2 v3 M4) fun _ M5 =>
  f_Calendarhall_freeNext_52 O f f v0 v1 v3 v4 v5 v2 0 M5
set_option maxRecDepth 20000 in
theorem k_f_Calendarhall_freeNext (O : Nat → Option va_E) (f d : Nat) (v0 : Nat) (v1 : Int) (v2 : Int) (v3 : Int) (v4 : Int) (v5 : Int) (M : xM) : xZ oJ O (d + 7) 181 0 [(0, .ref v0), (1, .int (yw v1)), (2, .int (yw v2)), (3, .int (yw v3)), (4, .int (yw v4)), (5, .int (yw v5))] [] M (f_Calendarhall_freeNext O f v0 v1 v2 v3 v4 v5 M) := by
  unfold f_Calendarhall_freeNext
  refine xZ.adv (me := xm181) hP_181 3 (pc' := 5) (lv' := [(0, .ref v0), (1, .int (yw v1)), (2, .int (yw v2)), (3, .int (yw v3)), (4, .int (yw v4)), (5, .int (yw v5))]) (st' := [.int (255 : Int32), .int (1 : Int32), .int (yw v1)]) rfl ?_
  refine xZ.eqs (lv2 := [(0, .ref v0), (1, .int (yw v1)), (2, .int (yw v2)), (3, .int (yw v3)), (4, .int (yw v4)), (5, .int (yw v5))]) (st2 := [.int (yw 255), .int (yw 1), .int (yw v1)]) rfl (by simp only [yl_lit, yL_lit, yw_add, yw_sub, yw_mul, yw_neg, yl_add, yl_sub, yl_mul, cj_and, cj_or, cj_xor, cj_shl, cj_shr, cj_ushr, cj_div, cj_i2c, cj_i2b, cj_dc, ck_and, ck_or, ck_xor, ck_shl, ck_shr, ck_ushr, ck_i2l, ck_l2i, ck_cmp]) ?_
  refine xZ.calls (κ := oU) (av := [.int (yw v1), .int (yw 1), .int (yw 255)]) (rest := []) (st' := fun _ => []) (me := xm181) hP_181 rfl rfl rfl (Nat.le_of_ble_eq_true rfl) (by decide) hP_22 (Nat.le_of_ble_eq_true rfl) (fun _ => rfl) (k_f_Calendarhall_needRange O f (d + 6) v1 1 255 M) (fun _ M1 => ?_)
  refine xZ.adv (me := xm181) hP_181 3 (pc' := 13) (lv' := [(0, .ref v0), (1, .int (yw v1)), (2, .int (yw v2)), (3, .int (yw v3)), (4, .int (yw v4)), (5, .int (yw v5))]) (st' := [.int (20160 : Int32), .int (yw v3), .int (yw v2)]) rfl ?_
  refine xZ.eqs (lv2 := [(0, .ref v0), (1, .int (yw v1)), (2, .int (yw v2)), (3, .int (yw v3)), (4, .int (yw v4)), (5, .int (yw v5))]) (st2 := [.int (yw 20160), .int (yw v3), .int (yw v2)]) rfl (by simp only [yl_lit, yL_lit, yw_add, yw_sub, yw_mul, yw_neg, yl_add, yl_sub, yl_mul, cj_and, cj_or, cj_xor, cj_shl, cj_shr, cj_ushr, cj_div, cj_i2c, cj_i2b, cj_dc, ck_and, ck_or, ck_xor, ck_shl, ck_shr, ck_ushr, ck_i2l, ck_l2i, ck_cmp]) ?_
  refine xZ.calls (κ := oU) (av := [.int (yw v2), .int (yw v3), .int (yw 20160)]) (rest := []) (st' := fun _ => []) (me := xm181) hP_181 rfl rfl rfl (Nat.le_of_ble_eq_true rfl) (by decide) hP_114 (Nat.le_of_ble_eq_true rfl) (fun _ => rfl) (k_f_Calendarhall_needPiece O f (d + 5) v2 v3 20160 M1) (fun _ M2 => ?_)
  refine xZ.adv (me := xm181) hP_181 3 (pc' := 22) (lv' := [(0, .ref v0), (1, .int (yw v1)), (2, .int (yw v2)), (3, .int (yw v3)), (4, .int (yw v4)), (5, .int (yw v5))]) (st' := [.int (600 : Int32), .int (1 : Int32), .int (yw v4)]) rfl ?_
  refine xZ.eqs (lv2 := [(0, .ref v0), (1, .int (yw v1)), (2, .int (yw v2)), (3, .int (yw v3)), (4, .int (yw v4)), (5, .int (yw v5))]) (st2 := [.int (yw 600), .int (yw 1), .int (yw v4)]) rfl (by simp only [yl_lit, yL_lit, yw_add, yw_sub, yw_mul, yw_neg, yl_add, yl_sub, yl_mul, cj_and, cj_or, cj_xor, cj_shl, cj_shr, cj_ushr, cj_div, cj_i2c, cj_i2b, cj_dc, ck_and, ck_or, ck_xor, ck_shl, ck_shr, ck_ushr, ck_i2l, ck_l2i, ck_cmp]) ?_
  refine xZ.calls (κ := oU) (av := [.int (yw v4), .int (yw 1), .int (yw 600)]) (rest := []) (st' := fun _ => []) (me := xm181) hP_181 rfl rfl rfl (Nat.le_of_ble_eq_true rfl) (by decide) hP_22 (Nat.le_of_ble_eq_true rfl) (fun _ => rfl) (k_f_Calendarhall_needRange O f (d + 6) v4 1 600 M2) (fun _ M3 => ?_)
  refine xZ.adv (me := xm181) hP_181 1 (pc' := 26) (lv' := [(0, .ref v0), (1, .int (yw v1)), (2, .int (yw v2)), (3, .int (yw v3)), (4, .int (yw v4)), (5, .int (yw v5))]) (st' := [.ref v0]) rfl ?_
  refine xZ.k_gR (me := xm181) hP_181 rfl (fun x4 => ?_)
  refine xZ.adv (me := xm181) hP_181 1 (pc' := 30) (lv' := [(0, .ref v0), (1, .int (yw v1)), (2, .int (yw v2)), (3, .int (yw v3)), (4, .int (yw v4)), (5, .int (yw v5))]) (st' := [.ref v0, .ref x4]) rfl ?_
  refine xZ.k_gR (me := xm181) hP_181 rfl (fun x5 => ?_)
  refine xZ.adv (me := xm181) hP_181 1 (pc' := 34) (lv' := [(0, .ref v0), (1, .int (yw v1)), (2, .int (yw v2)), (3, .int (yw v3)), (4, .int (yw v4)), (5, .int (yw v5))]) (st' := [.ref v0, .ref x5, .ref x4]) rfl ?_
  refine xZ.k_gR (me := xm181) hP_181 rfl (fun x6 => ?_)
  refine xZ.adv (me := xm181) hP_181 1 (pc' := 38) (lv' := [(0, .ref v0), (1, .int (yw v1)), (2, .int (yw v2)), (3, .int (yw v3)), (4, .int (yw v4)), (5, .int (yw v5))]) (st' := [.int (yw v1), .ref x6, .ref x5, .ref x4]) rfl ?_
  refine xZ.callv (κ := oJ) (av := [.int (yw v1)]) (rest := [.ref x5, .ref x4]) (st' := fun x7 => [.int (yw x7), .ref x5, .ref x4]) (k0 := x6) (me := xm181) hP_181 rfl (Or.inl rfl) ⟨rfl, by decide⟩ rfl rfl (Nat.le_of_ble_eq_true rfl) (by decide) hP_158 (Nat.le_of_ble_eq_true rfl) (fun _ => rfl) (k_f_Hall_seriesOf O f (d + 5) x6 v1 M3) (fun x7 M4 => ?_)
  refine xZ.adv (me := xm181) hP_181 2 (pc' := 43) (lv' := [(0, .ref v0), (1, .int (yw v1)), (2, .int (yw v2)), (3, .int (yw v3)), (4, .int (yw v4)), (5, .int (yw v5))]) (st' := [.int (yw v3), .int (yw v2), .int (yw x7), .ref x5, .ref x4]) rfl ?_
  refine xZ.callv (κ := oU) (av := [.ref x5, .int (yw x7), .int (yw v2), .int (yw v3)]) (rest := []) (st' := fun _ => []) (k0 := x4) (me := xm181) hP_181 rfl (Or.inl rfl) ⟨rfl, by decide⟩ rfl rfl (Nat.le_of_ble_eq_true rfl) (by decide) hP_162 (Nat.le_of_ble_eq_true rfl) (fun _ => rfl) (k_f_Hall_collectOn O f (d + 0) x4 x5 x7 v2 v3 M4) (fun _ M5 => ?_)
  refine xZ.adv (me := xm181) hP_181 4 (pc' := 52) (lv' := [(7, .int (0 : Int32)), (6, .int (yw v2)), (0, .ref v0), (1, .int (yw v1)), (2, .int (yw v2)), (3, .int (yw v3)), (4, .int (yw v4)), (5, .int (yw v5))]) (st' := []) rfl ?_
  refine xZ.eqs (lv2 := [(7, .int (yw 0)), (6, .int (yw v2)), (0, .ref v0), (1, .int (yw v1)), (2, .int (yw v2)), (3, .int (yw v3)), (4, .int (yw v4)), (5, .int (yw v5))]) (st2 := []) (by simp only [yl_lit, yL_lit, yw_add, yw_sub, yw_mul, yw_neg, yl_add, yl_sub, yl_mul, cj_and, cj_or, cj_xor, cj_shl, cj_shr, cj_ushr, cj_div, cj_i2c, cj_i2b, cj_dc, ck_and, ck_or, ck_xor, ck_shl, ck_shr, ck_ushr, ck_i2l, ck_l2i, ck_cmp]) rfl ?_
  exact xZ.sub (xsc (.tail _ (.tail _ (.head _))) (xsc (.tail _ (.tail _ (.tail _ (.head _)))) (xsc (.tail _ (.tail _ (.tail _ (.tail _ (.tail _ (.head _)))))) (xsc (.tail _ (.tail _ (.tail _ (.tail _ (.tail _ (.tail _ (.head _))))))) (xsc (.tail _ (.tail _ (.tail _ (.tail _ (.tail _ (.tail _ (.tail _ (.head _)))))))) (xsc (.tail _ (.head _)) (xsc (.head _) xsn))))))) (show ([7, 6, 0, 1, 2, 3, 4, 5] : List Nat).Nodup from by decide) (k_f_Calendarhall_freeNext_52 O f d f v0 v1 v3 v4 v5 v2 0 M5)
def f_Calendarhall_addCosts_112 (O : Nat → Option va_E) (f : Nat) (K28 : Nat → Nat → Int → Int → Int → Int → Nat → Int → Int → Int → Int → Int → xM → Option (Unit × xM)) (v0 : Nat) (v1 : Nat) (v2 : Int) (v3 : Int) (v4 : Int) (v5 : Int) (v6 : Nat) (v7 : Int) (v8 : Int) (v9 : Int) (v10 : Int) (v11 : Int) (v12 : Int) (M : xM) : Option (Unit × xM) :=
  if yw (v12 + v4) ≤ yw v7 then (
    if yw (v12 + v4) ≤ yw v9 then (
      K28 v0 v1 v2 v3 v4 v5 v6 v7 v8 v9 v10 (v11 + 1) M
    ) else
    (gR O M v0 12 9).bind fun x1 =>
    (aJ O M x1 v11).bind fun x2 =>
    (wJ M x1 v11 (x2 + 1)).bind fun M1 =>
    K28 v0 v1 v2 v3 v4 v5 v6 v7 v8 v9 v10 (v11 + 1) M1
  ) else
  (gR O M v0 12 9).bind fun x3 =>
  (aJ O M x3 v11).bind fun x4 =>
  (wJ M x3 v11 (x4 + 3)).bind fun M2 =>
  K28 v0 v1 v2 v3 v4 v5 v6 v7 v8 v9 v10 (v11 + 1) M2
set_option maxRecDepth 20000 in
theorem k_f_Calendarhall_addCosts_112 (O : Nat → Option va_E) (f d : Nat) (K28 : Nat → Nat → Int → Int → Int → Int → Nat → Int → Int → Int → Int → Int → xM → Option (Unit × xM)) (hK28 : ∀ (v0 : Nat) (v1 : Nat) (v2 : Int) (v3 : Int) (v4 : Int) (v5 : Int) (v6 : Nat) (v7 : Int) (v8 : Int) (v9 : Int) (v10 : Int) (v11 : Int) M, xZ oU O (d + 5) 185 28 [(0, .ref v0), (1, .ref v1), (2, .int (yw v2)), (3, .int (yw v3)), (4, .int (yw v4)), (5, .int (yw v5)), (6, .ref v6), (7, .int (yw v7)), (8, .int (yw v8)), (9, .int (yw v9)), (10, .int (yw v10)), (11, .int (yw v11))] [] M (K28 v0 v1 v2 v3 v4 v5 v6 v7 v8 v9 v10 v11 M)) (v0 : Nat) (v1 : Nat) (v2 : Int) (v3 : Int) (v4 : Int) (v5 : Int) (v6 : Nat) (v7 : Int) (v8 : Int) (v9 : Int) (v10 : Int) (v11 : Int) (v12 : Int) (M : xM) : xZ oU O (d + 5) 185 112 [(0, .ref v0), (1, .ref v1), (2, .int (yw v2)), (3, .int (yw v3)), (4, .int (yw v4)), (5, .int (yw v5)), (6, .ref v6), (7, .int (yw v7)), (8, .int (yw v8)), (9, .int (yw v9)), (10, .int (yw v10)), (11, .int (yw v11)), (12, .int (yw v12))] [] M (f_Calendarhall_addCosts_112 O f K28 v0 v1 v2 v3 v4 v5 v6 v7 v8 v9 v10 v11 v12 M) := by
  unfold f_Calendarhall_addCosts_112
  refine xZ.adv (me := xm185) hP_185 4 (pc' := 119) (lv' := [(0, .ref v0), (1, .ref v1), (2, .int (yw v2)), (3, .int (yw v3)), (4, .int (yw v4)), (5, .int (yw v5)), (6, .ref v6), (7, .int (yw v7)), (8, .int (yw v8)), (9, .int (yw v9)), (10, .int (yw v10)), (11, .int (yw v11)), (12, .int (yw v12))]) (st' := [.int ((yw v12) + (yw v4)), .int (yw v7)]) rfl ?_
  refine xZ.eqs (lv2 := [(0, .ref v0), (1, .ref v1), (2, .int (yw v2)), (3, .int (yw v3)), (4, .int (yw v4)), (5, .int (yw v5)), (6, .ref v6), (7, .int (yw v7)), (8, .int (yw v8)), (9, .int (yw v9)), (10, .int (yw v10)), (11, .int (yw v11)), (12, .int (yw v12))]) (st2 := [.int (yw (v12 + v4)), .int (yw v7)]) rfl (by simp only [yl_lit, yL_lit, yw_add, yw_sub, yw_mul, yw_neg, yl_add, yl_sub, yl_mul, cj_and, cj_or, cj_xor, cj_shl, cj_shr, cj_ushr, cj_div, cj_i2c, cj_i2b, cj_dc, ck_and, ck_or, ck_xor, ck_shl, ck_shr, ck_ushr, ck_i2l, ck_l2i, ck_cmp]) ?_
  refine xZ.jc_ge (me := xm185) hP_185 rfl (fun h1 => ?_) (fun h1 => ?_)
  · skip
    refine xZ.adv (me := xm185) hP_185 4 (pc' := 143) (lv' := [(0, .ref v0), (1, .ref v1), (2, .int (yw v2)), (3, .int (yw v3)), (4, .int (yw v4)), (5, .int (yw v5)), (6, .ref v6), (7, .int (yw v7)), (8, .int (yw v8)), (9, .int (yw v9)), (10, .int (yw v10)), (11, .int (yw v11)), (12, .int (yw v12))]) (st' := [.int ((yw v12) + (yw v4)), .int (yw v9)]) rfl ?_
    refine xZ.eqs (lv2 := [(0, .ref v0), (1, .ref v1), (2, .int (yw v2)), (3, .int (yw v3)), (4, .int (yw v4)), (5, .int (yw v5)), (6, .ref v6), (7, .int (yw v7)), (8, .int (yw v8)), (9, .int (yw v9)), (10, .int (yw v10)), (11, .int (yw v11)), (12, .int (yw v12))]) (st2 := [.int (yw (v12 + v4)), .int (yw v9)]) rfl (by simp only [yl_lit, yL_lit, yw_add, yw_sub, yw_mul, yw_neg, yl_add, yl_sub, yl_mul, cj_and, cj_or, cj_xor, cj_shl, cj_shr, cj_ushr, cj_div, cj_i2c, cj_i2b, cj_dc, ck_and, ck_or, ck_xor, ck_shl, ck_shr, ck_ushr, ck_i2l, ck_l2i, ck_cmp]) ?_
    refine xZ.jc_ge (me := xm185) hP_185 rfl (fun h2 => ?_) (fun h2 => ?_)
    · skip
      refine xZ.adv (me := xm185) hP_185 2 (pc' := 28) (lv' := [(11, .int ((yw v11) + (1 : Int32))), (0, .ref v0), (1, .ref v1), (2, .int (yw v2)), (3, .int (yw v3)), (4, .int (yw v4)), (5, .int (yw v5)), (6, .ref v6), (7, .int (yw v7)), (8, .int (yw v8)), (9, .int (yw v9)), (10, .int (yw v10)), (12, .int (yw v12))]) (st' := []) rfl ?_
      refine xZ.eqs (lv2 := [(11, .int (yw (v11 + 1))), (0, .ref v0), (1, .ref v1), (2, .int (yw v2)), (3, .int (yw v3)), (4, .int (yw v4)), (5, .int (yw v5)), (6, .ref v6), (7, .int (yw v7)), (8, .int (yw v8)), (9, .int (yw v9)), (10, .int (yw v10)), (12, .int (yw v12))]) (st2 := []) (by simp only [yl_lit, yL_lit, yw_add, yw_sub, yw_mul, yw_neg, yl_add, yl_sub, yl_mul, cj_and, cj_or, cj_xor, cj_shl, cj_shr, cj_ushr, cj_div, cj_i2c, cj_i2b, cj_dc, ck_and, ck_or, ck_xor, ck_shl, ck_shr, ck_ushr, ck_i2l, ck_l2i, ck_cmp]) rfl ?_
      exact xZ.sub (xsc (.tail _ (.head _)) (xsc (.tail _ (.tail _ (.head _))) (xsc (.tail _ (.tail _ (.tail _ (.head _)))) (xsc (.tail _ (.tail _ (.tail _ (.tail _ (.head _))))) (xsc (.tail _ (.tail _ (.tail _ (.tail _ (.tail _ (.head _)))))) (xsc (.tail _ (.tail _ (.tail _ (.tail _ (.tail _ (.tail _ (.head _))))))) (xsc (.tail _ (.tail _ (.tail _ (.tail _ (.tail _ (.tail _ (.tail _ (.head _)))))))) (xsc (.tail _ (.tail _ (.tail _ (.tail _ (.tail _ (.tail _ (.tail _ (.tail _ (.head _))))))))) (xsc (.tail _ (.tail _ (.tail _ (.tail _ (.tail _ (.tail _ (.tail _ (.tail _ (.tail _ (.head _)))))))))) (xsc (.tail _ (.tail _ (.tail _ (.tail _ (.tail _ (.tail _ (.tail _ (.tail _ (.tail _ (.tail _ (.head _))))))))))) (xsc (.tail _ (.tail _ (.tail _ (.tail _ (.tail _ (.tail _ (.tail _ (.tail _ (.tail _ (.tail _ (.tail _ (.head _)))))))))))) (xsc (.head _) xsn)))))))))))) (show ([11, 0, 1, 2, 3, 4, 5, 6, 7, 8, 9, 10, 12] : List Nat).Nodup from by decide) (hK28 v0 v1 v2 v3 v4 v5 v6 v7 v8 v9 v10 (v11 + 1) M)
    · skip
      refine xZ.adv (me := xm185) hP_185 1 (pc' := 147) (lv' := [(0, .ref v0), (1, .ref v1), (2, .int (yw v2)), (3, .int (yw v3)), (4, .int (yw v4)), (5, .int (yw v5)), (6, .ref v6), (7, .int (yw v7)), (8, .int (yw v8)), (9, .int (yw v9)), (10, .int (yw v10)), (11, .int (yw v11)), (12, .int (yw v12))]) (st' := [.ref v0]) rfl ?_
      refine xZ.k_gR (me := xm185) hP_185 rfl (fun x1 => ?_)
      refine xZ.adv (me := xm185) hP_185 2 (pc' := 153) (lv' := [(0, .ref v0), (1, .ref v1), (2, .int (yw v2)), (3, .int (yw v3)), (4, .int (yw v4)), (5, .int (yw v5)), (6, .ref v6), (7, .int (yw v7)), (8, .int (yw v8)), (9, .int (yw v9)), (10, .int (yw v10)), (11, .int (yw v11)), (12, .int (yw v12))]) (st' := [.int (yw v11), .ref x1, .int (yw v11), .ref x1]) rfl ?_
      refine xZ.k_aJ (me := xm185) hP_185 rfl (fun x2 => ?_)
      refine xZ.adv (me := xm185) hP_185 2 (pc' := 156) (lv' := [(0, .ref v0), (1, .ref v1), (2, .int (yw v2)), (3, .int (yw v3)), (4, .int (yw v4)), (5, .int (yw v5)), (6, .ref v6), (7, .int (yw v7)), (8, .int (yw v8)), (9, .int (yw v9)), (10, .int (yw v10)), (11, .int (yw v11)), (12, .int (yw v12))]) (st' := [.int ((yw x2) + (1 : Int32)), .int (yw v11), .ref x1]) rfl ?_
      refine xZ.eqs (lv2 := [(0, .ref v0), (1, .ref v1), (2, .int (yw v2)), (3, .int (yw v3)), (4, .int (yw v4)), (5, .int (yw v5)), (6, .ref v6), (7, .int (yw v7)), (8, .int (yw v8)), (9, .int (yw v9)), (10, .int (yw v10)), (11, .int (yw v11)), (12, .int (yw v12))]) (st2 := [.int (yw (x2 + 1)), .int (yw v11), .ref x1]) rfl (by simp only [yl_lit, yL_lit, yw_add, yw_sub, yw_mul, yw_neg, yl_add, yl_sub, yl_mul, cj_and, cj_or, cj_xor, cj_shl, cj_shr, cj_ushr, cj_div, cj_i2c, cj_i2b, cj_dc, ck_and, ck_or, ck_xor, ck_shl, ck_shr, ck_ushr, ck_i2l, ck_l2i, ck_cmp]) ?_
      refine xZ.k_wJ (me := xm185) hP_185 rfl (fun M1 => ?_)
      refine xZ.adv (me := xm185) hP_185 2 (pc' := 28) (lv' := [(11, .int ((yw v11) + (1 : Int32))), (0, .ref v0), (1, .ref v1), (2, .int (yw v2)), (3, .int (yw v3)), (4, .int (yw v4)), (5, .int (yw v5)), (6, .ref v6), (7, .int (yw v7)), (8, .int (yw v8)), (9, .int (yw v9)), (10, .int (yw v10)), (12, .int (yw v12))]) (st' := []) rfl ?_
      refine xZ.eqs (lv2 := [(11, .int (yw (v11 + 1))), (0, .ref v0), (1, .ref v1), (2, .int (yw v2)), (3, .int (yw v3)), (4, .int (yw v4)), (5, .int (yw v5)), (6, .ref v6), (7, .int (yw v7)), (8, .int (yw v8)), (9, .int (yw v9)), (10, .int (yw v10)), (12, .int (yw v12))]) (st2 := []) (by simp only [yl_lit, yL_lit, yw_add, yw_sub, yw_mul, yw_neg, yl_add, yl_sub, yl_mul, cj_and, cj_or, cj_xor, cj_shl, cj_shr, cj_ushr, cj_div, cj_i2c, cj_i2b, cj_dc, ck_and, ck_or, ck_xor, ck_shl, ck_shr, ck_ushr, ck_i2l, ck_l2i, ck_cmp]) rfl ?_
      exact xZ.sub (xsc (.tail _ (.head _)) (xsc (.tail _ (.tail _ (.head _))) (xsc (.tail _ (.tail _ (.tail _ (.head _)))) (xsc (.tail _ (.tail _ (.tail _ (.tail _ (.head _))))) (xsc (.tail _ (.tail _ (.tail _ (.tail _ (.tail _ (.head _)))))) (xsc (.tail _ (.tail _ (.tail _ (.tail _ (.tail _ (.tail _ (.head _))))))) (xsc (.tail _ (.tail _ (.tail _ (.tail _ (.tail _ (.tail _ (.tail _ (.head _)))))))) (xsc (.tail _ (.tail _ (.tail _ (.tail _ (.tail _ (.tail _ (.tail _ (.tail _ (.head _))))))))) (xsc (.tail _ (.tail _ (.tail _ (.tail _ (.tail _ (.tail _ (.tail _ (.tail _ (.tail _ (.head _)))))))))) (xsc (.tail _ (.tail _ (.tail _ (.tail _ (.tail _ (.tail _ (.tail _ (.tail _ (.tail _ (.tail _ (.head _))))))))))) (xsc (.tail _ (.tail _ (.tail _ (.tail _ (.tail _ (.tail _ (.tail _ (.tail _ (.tail _ (.tail _ (.tail _ (.head _)))))))))))) (xsc (.head _) xsn)))))))))))) (show ([11, 0, 1, 2, 3, 4, 5, 6, 7, 8, 9, 10, 12] : List Nat).Nodup from by decide) (hK28 v0 v1 v2 v3 v4 v5 v6 v7 v8 v9 v10 (v11 + 1) M1)
  · skip
    refine xZ.adv (me := xm185) hP_185 1 (pc' := 123) (lv' := [(0, .ref v0), (1, .ref v1), (2, .int (yw v2)), (3, .int (yw v3)), (4, .int (yw v4)), (5, .int (yw v5)), (6, .ref v6), (7, .int (yw v7)), (8, .int (yw v8)), (9, .int (yw v9)), (10, .int (yw v10)), (11, .int (yw v11)), (12, .int (yw v12))]) (st' := [.ref v0]) rfl ?_
    refine xZ.k_gR (me := xm185) hP_185 rfl (fun x3 => ?_)
    refine xZ.adv (me := xm185) hP_185 2 (pc' := 129) (lv' := [(0, .ref v0), (1, .ref v1), (2, .int (yw v2)), (3, .int (yw v3)), (4, .int (yw v4)), (5, .int (yw v5)), (6, .ref v6), (7, .int (yw v7)), (8, .int (yw v8)), (9, .int (yw v9)), (10, .int (yw v10)), (11, .int (yw v11)), (12, .int (yw v12))]) (st' := [.int (yw v11), .ref x3, .int (yw v11), .ref x3]) rfl ?_
    refine xZ.k_aJ (me := xm185) hP_185 rfl (fun x4 => ?_)
    refine xZ.adv (me := xm185) hP_185 2 (pc' := 132) (lv' := [(0, .ref v0), (1, .ref v1), (2, .int (yw v2)), (3, .int (yw v3)), (4, .int (yw v4)), (5, .int (yw v5)), (6, .ref v6), (7, .int (yw v7)), (8, .int (yw v8)), (9, .int (yw v9)), (10, .int (yw v10)), (11, .int (yw v11)), (12, .int (yw v12))]) (st' := [.int ((yw x4) + (3 : Int32)), .int (yw v11), .ref x3]) rfl ?_
    refine xZ.eqs (lv2 := [(0, .ref v0), (1, .ref v1), (2, .int (yw v2)), (3, .int (yw v3)), (4, .int (yw v4)), (5, .int (yw v5)), (6, .ref v6), (7, .int (yw v7)), (8, .int (yw v8)), (9, .int (yw v9)), (10, .int (yw v10)), (11, .int (yw v11)), (12, .int (yw v12))]) (st2 := [.int (yw (x4 + 3)), .int (yw v11), .ref x3]) rfl (by simp only [yl_lit, yL_lit, yw_add, yw_sub, yw_mul, yw_neg, yl_add, yl_sub, yl_mul, cj_and, cj_or, cj_xor, cj_shl, cj_shr, cj_ushr, cj_div, cj_i2c, cj_i2b, cj_dc, ck_and, ck_or, ck_xor, ck_shl, ck_shr, ck_ushr, ck_i2l, ck_l2i, ck_cmp]) ?_
    refine xZ.k_wJ (me := xm185) hP_185 rfl (fun M2 => ?_)
    refine xZ.adv (me := xm185) hP_185 3 (pc' := 28) (lv' := [(11, .int ((yw v11) + (1 : Int32))), (0, .ref v0), (1, .ref v1), (2, .int (yw v2)), (3, .int (yw v3)), (4, .int (yw v4)), (5, .int (yw v5)), (6, .ref v6), (7, .int (yw v7)), (8, .int (yw v8)), (9, .int (yw v9)), (10, .int (yw v10)), (12, .int (yw v12))]) (st' := []) rfl ?_
    refine xZ.eqs (lv2 := [(11, .int (yw (v11 + 1))), (0, .ref v0), (1, .ref v1), (2, .int (yw v2)), (3, .int (yw v3)), (4, .int (yw v4)), (5, .int (yw v5)), (6, .ref v6), (7, .int (yw v7)), (8, .int (yw v8)), (9, .int (yw v9)), (10, .int (yw v10)), (12, .int (yw v12))]) (st2 := []) (by simp only [yl_lit, yL_lit, yw_add, yw_sub, yw_mul, yw_neg, yl_add, yl_sub, yl_mul, cj_and, cj_or, cj_xor, cj_shl, cj_shr, cj_ushr, cj_div, cj_i2c, cj_i2b, cj_dc, ck_and, ck_or, ck_xor, ck_shl, ck_shr, ck_ushr, ck_i2l, ck_l2i, ck_cmp]) rfl ?_
    exact xZ.sub (xsc (.tail _ (.head _)) (xsc (.tail _ (.tail _ (.head _))) (xsc (.tail _ (.tail _ (.tail _ (.head _)))) (xsc (.tail _ (.tail _ (.tail _ (.tail _ (.head _))))) (xsc (.tail _ (.tail _ (.tail _ (.tail _ (.tail _ (.head _)))))) (xsc (.tail _ (.tail _ (.tail _ (.tail _ (.tail _ (.tail _ (.head _))))))) (xsc (.tail _ (.tail _ (.tail _ (.tail _ (.tail _ (.tail _ (.tail _ (.head _)))))))) (xsc (.tail _ (.tail _ (.tail _ (.tail _ (.tail _ (.tail _ (.tail _ (.tail _ (.head _))))))))) (xsc (.tail _ (.tail _ (.tail _ (.tail _ (.tail _ (.tail _ (.tail _ (.tail _ (.tail _ (.head _)))))))))) (xsc (.tail _ (.tail _ (.tail _ (.tail _ (.tail _ (.tail _ (.tail _ (.tail _ (.tail _ (.tail _ (.head _))))))))))) (xsc (.tail _ (.tail _ (.tail _ (.tail _ (.tail _ (.tail _ (.tail _ (.tail _ (.tail _ (.tail _ (.tail _ (.head _)))))))))))) (xsc (.head _) xsn)))))))))))) (show ([11, 0, 1, 2, 3, 4, 5, 6, 7, 8, 9, 10, 12] : List Nat).Nodup from by decide) (hK28 v0 v1 v2 v3 v4 v5 v6 v7 v8 v9 v10 (v11 + 1) M2)
def f_Calendarhall_addCosts_83 (O : Nat → Option va_E) (f : Nat) (K28 : Nat → Nat → Int → Int → Int → Int → Nat → Int → Int → Int → Int → Int → xM → Option (Unit × xM)) (v0 : Nat) (v1 : Nat) (v2 : Int) (v3 : Int) (v4 : Int) (v5 : Int) (v6 : Nat) (v7 : Int) (v8 : Int) (v9 : Int) (v10 : Int) (v11 : Int) (v12 : Int) (M : xM) : Option (Unit × xM) :=
  if yw v12 < yw v10 then (
    f_Calendarhall_addCosts_112 O f K28 v0 v1 v2 v3 v4 v5 v6 v7 v8 v9 v10 v11 v12 M
  ) else
  (isO O M v1 6).bind fun _ =>
  xcl (f_Person_idleFrom O f v1 v6 v12 v3 M) fun x1 M1 =>
  (isO O M1 v1 6).bind fun _ =>
  xcl (f_Person_workFrom O f v1 v6 x1 v3 M1) fun x2 M2 =>
  f_Calendarhall_addCosts_112 O f K28 v0 v1 v2 v3 v4 v5 v6 v7 v8 x1 x2 v11 v12 M2
set_option maxRecDepth 20000 in
theorem k_f_Calendarhall_addCosts_83 (O : Nat → Option va_E) (f d : Nat) (K28 : Nat → Nat → Int → Int → Int → Int → Nat → Int → Int → Int → Int → Int → xM → Option (Unit × xM)) (hK28 : ∀ (v0 : Nat) (v1 : Nat) (v2 : Int) (v3 : Int) (v4 : Int) (v5 : Int) (v6 : Nat) (v7 : Int) (v8 : Int) (v9 : Int) (v10 : Int) (v11 : Int) M, xZ oU O (d + 5) 185 28 [(0, .ref v0), (1, .ref v1), (2, .int (yw v2)), (3, .int (yw v3)), (4, .int (yw v4)), (5, .int (yw v5)), (6, .ref v6), (7, .int (yw v7)), (8, .int (yw v8)), (9, .int (yw v9)), (10, .int (yw v10)), (11, .int (yw v11))] [] M (K28 v0 v1 v2 v3 v4 v5 v6 v7 v8 v9 v10 v11 M)) (v0 : Nat) (v1 : Nat) (v2 : Int) (v3 : Int) (v4 : Int) (v5 : Int) (v6 : Nat) (v7 : Int) (v8 : Int) (v9 : Int) (v10 : Int) (v11 : Int) (v12 : Int) (M : xM) : xZ oU O (d + 5) 185 83 [(0, .ref v0), (1, .ref v1), (2, .int (yw v2)), (3, .int (yw v3)), (4, .int (yw v4)), (5, .int (yw v5)), (6, .ref v6), (7, .int (yw v7)), (8, .int (yw v8)), (9, .int (yw v9)), (10, .int (yw v10)), (11, .int (yw v11)), (12, .int (yw v12))] [] M (f_Calendarhall_addCosts_83 O f K28 v0 v1 v2 v3 v4 v5 v6 v7 v8 v9 v10 v11 v12 M) := by
  unfold f_Calendarhall_addCosts_83
  refine xZ.adv (me := xm185) hP_185 2 (pc' := 87) (lv' := [(0, .ref v0), (1, .ref v1), (2, .int (yw v2)), (3, .int (yw v3)), (4, .int (yw v4)), (5, .int (yw v5)), (6, .ref v6), (7, .int (yw v7)), (8, .int (yw v8)), (9, .int (yw v9)), (10, .int (yw v10)), (11, .int (yw v11)), (12, .int (yw v12))]) (st' := [.int (yw v12), .int (yw v10)]) rfl ?_
  refine xZ.jc_gt (me := xm185) hP_185 rfl (fun h1 => ?_) (fun h1 => ?_)
  · skip
    exact (k_f_Calendarhall_addCosts_112 O f d K28 hK28 v0 v1 v2 v3 v4 v5 v6 v7 v8 v9 v10 v11 v12 M)
  · skip
    refine xZ.adv (me := xm185) hP_185 4 (pc' := 96) (lv' := [(0, .ref v0), (1, .ref v1), (2, .int (yw v2)), (3, .int (yw v3)), (4, .int (yw v4)), (5, .int (yw v5)), (6, .ref v6), (7, .int (yw v7)), (8, .int (yw v8)), (9, .int (yw v9)), (10, .int (yw v10)), (11, .int (yw v11)), (12, .int (yw v12))]) (st' := [.int (yw v3), .int (yw v12), .ref v6, .ref v1]) rfl ?_
    refine xZ.callv (κ := oJ) (av := [.ref v6, .int (yw v12), .int (yw v3)]) (rest := []) (st' := fun x1 => [.int (yw x1)]) (k0 := v1) (me := xm185) hP_185 rfl (Or.inl rfl) ⟨rfl, by decide⟩ rfl rfl (Nat.le_of_ble_eq_true rfl) (by decide) hP_179 (Nat.le_of_ble_eq_true rfl) (fun _ => rfl) (k_f_Person_idleFrom O f (d + 0) v1 v6 v12 v3 M) (fun x1 M1 => ?_)
    refine xZ.adv (me := xm185) hP_185 5 (pc' := 107) (lv' := [(9, .int (yw x1)), (0, .ref v0), (1, .ref v1), (2, .int (yw v2)), (3, .int (yw v3)), (4, .int (yw v4)), (5, .int (yw v5)), (6, .ref v6), (7, .int (yw v7)), (8, .int (yw v8)), (10, .int (yw v10)), (11, .int (yw v11)), (12, .int (yw v12))]) (st' := [.int (yw v3), .int (yw x1), .ref v6, .ref v1]) rfl ?_
    refine xZ.callv (κ := oJ) (av := [.ref v6, .int (yw x1), .int (yw v3)]) (rest := []) (st' := fun x2 => [.int (yw x2)]) (k0 := v1) (me := xm185) hP_185 rfl (Or.inl rfl) ⟨rfl, by decide⟩ rfl rfl (Nat.le_of_ble_eq_true rfl) (by decide) hP_175 (Nat.le_of_ble_eq_true rfl) (fun _ => rfl) (k_f_Person_workFrom O f (d + 0) v1 v6 x1 v3 M1) (fun x2 M2 => ?_)
    refine xZ.adv (me := xm185) hP_185 1 (pc' := 112) (lv' := [(10, .int (yw x2)), (9, .int (yw x1)), (0, .ref v0), (1, .ref v1), (2, .int (yw v2)), (3, .int (yw v3)), (4, .int (yw v4)), (5, .int (yw v5)), (6, .ref v6), (7, .int (yw v7)), (8, .int (yw v8)), (11, .int (yw v11)), (12, .int (yw v12))]) (st' := []) rfl ?_
    exact xZ.sub (xsc (.tail _ (.tail _ (.head _))) (xsc (.tail _ (.tail _ (.tail _ (.head _)))) (xsc (.tail _ (.tail _ (.tail _ (.tail _ (.head _))))) (xsc (.tail _ (.tail _ (.tail _ (.tail _ (.tail _ (.head _)))))) (xsc (.tail _ (.tail _ (.tail _ (.tail _ (.tail _ (.tail _ (.head _))))))) (xsc (.tail _ (.tail _ (.tail _ (.tail _ (.tail _ (.tail _ (.tail _ (.head _)))))))) (xsc (.tail _ (.tail _ (.tail _ (.tail _ (.tail _ (.tail _ (.tail _ (.tail _ (.head _))))))))) (xsc (.tail _ (.tail _ (.tail _ (.tail _ (.tail _ (.tail _ (.tail _ (.tail _ (.tail _ (.head _)))))))))) (xsc (.tail _ (.tail _ (.tail _ (.tail _ (.tail _ (.tail _ (.tail _ (.tail _ (.tail _ (.tail _ (.head _))))))))))) (xsc (.tail _ (.head _)) (xsc (.head _) (xsc (.tail _ (.tail _ (.tail _ (.tail _ (.tail _ (.tail _ (.tail _ (.tail _ (.tail _ (.tail _ (.tail _ (.head _)))))))))))) (xsc (.tail _ (.tail _ (.tail _ (.tail _ (.tail _ (.tail _ (.tail _ (.tail _ (.tail _ (.tail _ (.tail _ (.tail _ (.head _))))))))))))) xsn))))))))))))) (show ([10, 9, 0, 1, 2, 3, 4, 5, 6, 7, 8, 11, 12] : List Nat).Nodup from by decide) (k_f_Calendarhall_addCosts_112 O f d K28 hK28 v0 v1 v2 v3 v4 v5 v6 v7 v8 x1 x2 v11 v12 M2)
def f_Calendarhall_addCosts_28 (O : Nat → Option va_E) (f : Nat) : Nat → Nat → Nat → Int → Int → Int → Int → Nat → Int → Int → Int → Int → Int → xM → Option (Unit × xM)
  | 0, _, _, _, _, _, _, _, _, _, _, _, _, _ => none
  | n + 1, v0, v1, v2, v3, v4, v5, v6, v7, v8, v9, v10, v11, M =>
    if yw v5 ≤ yw v11 then (
      some ((), M)
    ) else
    (gR O M v0 12 9).bind fun x1 =>
    (aJN O M x1).bind fun x2 =>
    if yw x2 ≤ yw v11 then (
      some ((), M)
    ) else
    if yw (v2 + (15 * v11)) < yw v8 then (
      f_Calendarhall_addCosts_83 O f (f_Calendarhall_addCosts_28 O f n) v0 v1 v2 v3 v4 v5 v6 v7 v8 v9 v10 v11 (v2 + (15 * v11)) M
    ) else
    (gR O M v0 12 4).bind fun x3 =>
    (isO O M x3 2).bind fun _ =>
    xcl (f_Dates_onFrom O f x3 (v2 + (15 * v11)) M) fun x4 M1 =>
    (gR O M1 v0 12 4).bind fun x5 =>
    (isO O M1 x5 2).bind fun _ =>
    xcl (f_Dates_offFrom O f x5 x4 M1) fun x6 M2 =>
    f_Calendarhall_addCosts_83 O f (f_Calendarhall_addCosts_28 O f n) v0 v1 v2 v3 v4 v5 v6 x4 x6 v9 v10 v11 (v2 + (15 * v11)) M2
set_option maxRecDepth 20000 in
theorem k_f_Calendarhall_addCosts_28 (O : Nat → Option va_E) (f d : Nat) : ∀ (n : Nat) (v0 : Nat) (v1 : Nat) (v2 : Int) (v3 : Int) (v4 : Int) (v5 : Int) (v6 : Nat) (v7 : Int) (v8 : Int) (v9 : Int) (v10 : Int) (v11 : Int) (M : xM), xZ oU O (d + 5) 185 28 [(0, .ref v0), (1, .ref v1), (2, .int (yw v2)), (3, .int (yw v3)), (4, .int (yw v4)), (5, .int (yw v5)), (6, .ref v6), (7, .int (yw v7)), (8, .int (yw v8)), (9, .int (yw v9)), (10, .int (yw v10)), (11, .int (yw v11))] [] M (f_Calendarhall_addCosts_28 O f n v0 v1 v2 v3 v4 v5 v6 v7 v8 v9 v10 v11 M) := by
  intro n
  induction n with
  | zero =>
    intro v0 v1 v2 v3 v4 v5 v6 v7 v8 v9 v10 v11 M
    exact xZ.no
  | succ n ih =>
    intro v0 v1 v2 v3 v4 v5 v6 v7 v8 v9 v10 v11 M
    unfold f_Calendarhall_addCosts_28
    refine xZ.adv (me := xm185) hP_185 2 (pc' := 32) (lv' := [(0, .ref v0), (1, .ref v1), (2, .int (yw v2)), (3, .int (yw v3)), (4, .int (yw v4)), (5, .int (yw v5)), (6, .ref v6), (7, .int (yw v7)), (8, .int (yw v8)), (9, .int (yw v9)), (10, .int (yw v10)), (11, .int (yw v11))]) (st' := [.int (yw v5), .int (yw v11)]) rfl ?_
    refine xZ.jc_ge (me := xm185) hP_185 rfl (fun h1 => ?_) (fun h1 => ?_)
    · skip
      exact xZ.retu (me := xm185) hP_185 rfl rfl
    · skip
      refine xZ.adv (me := xm185) hP_185 2 (pc' := 38) (lv' := [(0, .ref v0), (1, .ref v1), (2, .int (yw v2)), (3, .int (yw v3)), (4, .int (yw v4)), (5, .int (yw v5)), (6, .ref v6), (7, .int (yw v7)), (8, .int (yw v8)), (9, .int (yw v9)), (10, .int (yw v10)), (11, .int (yw v11))]) (st' := [.ref v0, .int (yw v11)]) rfl ?_
      refine xZ.k_gR (me := xm185) hP_185 rfl (fun x1 => ?_)
      refine xZ.k_aJN (me := xm185) hP_185 rfl (fun x2 => ?_)
      refine xZ.jc_ge (me := xm185) hP_185 rfl (fun h2 => ?_) (fun h2 => ?_)
      · skip
        exact xZ.retu (me := xm185) hP_185 rfl rfl
      · skip
        refine xZ.adv (me := xm185) hP_185 8 (pc' := 58) (lv' := [(12, .int ((yw v2) + ((15 : Int32) * (yw v11)))), (0, .ref v0), (1, .ref v1), (2, .int (yw v2)), (3, .int (yw v3)), (4, .int (yw v4)), (5, .int (yw v5)), (6, .ref v6), (7, .int (yw v7)), (8, .int (yw v8)), (9, .int (yw v9)), (10, .int (yw v10)), (11, .int (yw v11))]) (st' := [.int ((yw v2) + ((15 : Int32) * (yw v11))), .int (yw v8)]) rfl ?_
        refine xZ.eqs (lv2 := [(12, .int (yw (v2 + (15 * v11)))), (0, .ref v0), (1, .ref v1), (2, .int (yw v2)), (3, .int (yw v3)), (4, .int (yw v4)), (5, .int (yw v5)), (6, .ref v6), (7, .int (yw v7)), (8, .int (yw v8)), (9, .int (yw v9)), (10, .int (yw v10)), (11, .int (yw v11))]) (st2 := [.int (yw (v2 + (15 * v11))), .int (yw v8)]) (by simp only [yl_lit, yL_lit, yw_add, yw_sub, yw_mul, yw_neg, yl_add, yl_sub, yl_mul, cj_and, cj_or, cj_xor, cj_shl, cj_shr, cj_ushr, cj_div, cj_i2c, cj_i2b, cj_dc, ck_and, ck_or, ck_xor, ck_shl, ck_shr, ck_ushr, ck_i2l, ck_l2i, ck_cmp]) (by simp only [yl_lit, yL_lit, yw_add, yw_sub, yw_mul, yw_neg, yl_add, yl_sub, yl_mul, cj_and, cj_or, cj_xor, cj_shl, cj_shr, cj_ushr, cj_div, cj_i2c, cj_i2b, cj_dc, ck_and, ck_or, ck_xor, ck_shl, ck_shr, ck_ushr, ck_i2l, ck_l2i, ck_cmp]) ?_
        refine xZ.jc_gt (me := xm185) hP_185 rfl (fun h3 => ?_) (fun h3 => ?_)
        · skip
          exact xZ.sub (xsc (.tail _ (.head _)) (xsc (.tail _ (.tail _ (.head _))) (xsc (.tail _ (.tail _ (.tail _ (.head _)))) (xsc (.tail _ (.tail _ (.tail _ (.tail _ (.head _))))) (xsc (.tail _ (.tail _ (.tail _ (.tail _ (.tail _ (.head _)))))) (xsc (.tail _ (.tail _ (.tail _ (.tail _ (.tail _ (.tail _ (.head _))))))) (xsc (.tail _ (.tail _ (.tail _ (.tail _ (.tail _ (.tail _ (.tail _ (.head _)))))))) (xsc (.tail _ (.tail _ (.tail _ (.tail _ (.tail _ (.tail _ (.tail _ (.tail _ (.head _))))))))) (xsc (.tail _ (.tail _ (.tail _ (.tail _ (.tail _ (.tail _ (.tail _ (.tail _ (.tail _ (.head _)))))))))) (xsc (.tail _ (.tail _ (.tail _ (.tail _ (.tail _ (.tail _ (.tail _ (.tail _ (.tail _ (.tail _ (.head _))))))))))) (xsc (.tail _ (.tail _ (.tail _ (.tail _ (.tail _ (.tail _ (.tail _ (.tail _ (.tail _ (.tail _ (.tail _ (.head _)))))))))))) (xsc (.tail _ (.tail _ (.tail _ (.tail _ (.tail _ (.tail _ (.tail _ (.tail _ (.tail _ (.tail _ (.tail _ (.tail _ (.head _))))))))))))) (xsc (.head _) xsn))))))))))))) (show ([12, 0, 1, 2, 3, 4, 5, 6, 7, 8, 9, 10, 11] : List Nat).Nodup from by decide) (k_f_Calendarhall_addCosts_83 O f d (f_Calendarhall_addCosts_28 O f n) ih v0 v1 v2 v3 v4 v5 v6 v7 v8 v9 v10 v11 (v2 + (15 * v11)) M)
        · skip
          refine xZ.adv (me := xm185) hP_185 1 (pc' := 62) (lv' := [(12, .int (yw (v2 + (15 * v11)))), (0, .ref v0), (1, .ref v1), (2, .int (yw v2)), (3, .int (yw v3)), (4, .int (yw v4)), (5, .int (yw v5)), (6, .ref v6), (7, .int (yw v7)), (8, .int (yw v8)), (9, .int (yw v9)), (10, .int (yw v10)), (11, .int (yw v11))]) (st' := [.ref v0]) rfl ?_
          refine xZ.k_gR (me := xm185) hP_185 rfl (fun x3 => ?_)
          refine xZ.adv (me := xm185) hP_185 1 (pc' := 67) (lv' := [(12, .int (yw (v2 + (15 * v11)))), (0, .ref v0), (1, .ref v1), (2, .int (yw v2)), (3, .int (yw v3)), (4, .int (yw v4)), (5, .int (yw v5)), (6, .ref v6), (7, .int (yw v7)), (8, .int (yw v8)), (9, .int (yw v9)), (10, .int (yw v10)), (11, .int (yw v11))]) (st' := [.int (yw (v2 + (15 * v11))), .ref x3]) rfl ?_
          refine xZ.callv (κ := oJ) (av := [.int (yw (v2 + (15 * v11)))]) (rest := []) (st' := fun x4 => [.int (yw x4)]) (k0 := x3) (me := xm185) hP_185 rfl (Or.inl rfl) ⟨rfl, by decide⟩ rfl rfl (Nat.le_of_ble_eq_true rfl) (by decide) hP_169 (Nat.le_of_ble_eq_true rfl) (fun _ => rfl) (k_f_Dates_onFrom O f (d + 1) x3 (v2 + (15 * v11)) M) (fun x4 M1 => ?_)
          refine xZ.adv (me := xm185) hP_185 2 (pc' := 73) (lv' := [(7, .int (yw x4)), (12, .int (yw (v2 + (15 * v11)))), (0, .ref v0), (1, .ref v1), (2, .int (yw v2)), (3, .int (yw v3)), (4, .int (yw v4)), (5, .int (yw v5)), (6, .ref v6), (8, .int (yw v8)), (9, .int (yw v9)), (10, .int (yw v10)), (11, .int (yw v11))]) (st' := [.ref v0]) rfl ?_
          refine xZ.k_gR (me := xm185) hP_185 rfl (fun x5 => ?_)
          refine xZ.adv (me := xm185) hP_185 1 (pc' := 78) (lv' := [(7, .int (yw x4)), (12, .int (yw (v2 + (15 * v11)))), (0, .ref v0), (1, .ref v1), (2, .int (yw v2)), (3, .int (yw v3)), (4, .int (yw v4)), (5, .int (yw v5)), (6, .ref v6), (8, .int (yw v8)), (9, .int (yw v9)), (10, .int (yw v10)), (11, .int (yw v11))]) (st' := [.int (yw x4), .ref x5]) rfl ?_
          refine xZ.callv (κ := oJ) (av := [.int (yw x4)]) (rest := []) (st' := fun x6 => [.int (yw x6)]) (k0 := x5) (me := xm185) hP_185 rfl (Or.inl rfl) ⟨rfl, by decide⟩ rfl rfl (Nat.le_of_ble_eq_true rfl) (by decide) hP_178 (Nat.le_of_ble_eq_true rfl) (fun _ => rfl) (k_f_Dates_offFrom O f (d + 1) x5 x4 M1) (fun x6 M2 => ?_)
          refine xZ.adv (me := xm185) hP_185 1 (pc' := 83) (lv' := [(8, .int (yw x6)), (7, .int (yw x4)), (12, .int (yw (v2 + (15 * v11)))), (0, .ref v0), (1, .ref v1), (2, .int (yw v2)), (3, .int (yw v3)), (4, .int (yw v4)), (5, .int (yw v5)), (6, .ref v6), (9, .int (yw v9)), (10, .int (yw v10)), (11, .int (yw v11))]) (st' := []) rfl ?_
          exact xZ.sub (xsc (.tail _ (.tail _ (.tail _ (.head _)))) (xsc (.tail _ (.tail _ (.tail _ (.tail _ (.head _))))) (xsc (.tail _ (.tail _ (.tail _ (.tail _ (.tail _ (.head _)))))) (xsc (.tail _ (.tail _ (.tail _ (.tail _ (.tail _ (.tail _ (.head _))))))) (xsc (.tail _ (.tail _ (.tail _ (.tail _ (.tail _ (.tail _ (.tail _ (.head _)))))))) (xsc (.tail _ (.tail _ (.tail _ (.tail _ (.tail _ (.tail _ (.tail _ (.tail _ (.head _))))))))) (xsc (.tail _ (.tail _ (.tail _ (.tail _ (.tail _ (.tail _ (.tail _ (.tail _ (.tail _ (.head _)))))))))) (xsc (.tail _ (.head _)) (xsc (.head _) (xsc (.tail _ (.tail _ (.tail _ (.tail _ (.tail _ (.tail _ (.tail _ (.tail _ (.tail _ (.tail _ (.head _))))))))))) (xsc (.tail _ (.tail _ (.tail _ (.tail _ (.tail _ (.tail _ (.tail _ (.tail _ (.tail _ (.tail _ (.tail _ (.head _)))))))))))) (xsc (.tail _ (.tail _ (.tail _ (.tail _ (.tail _ (.tail _ (.tail _ (.tail _ (.tail _ (.tail _ (.tail _ (.tail _ (.head _))))))))))))) (xsc (.tail _ (.tail _ (.head _))) xsn))))))))))))) (show ([8, 7, 12, 0, 1, 2, 3, 4, 5, 6, 9, 10, 11] : List Nat).Nodup from by decide) (k_f_Calendarhall_addCosts_83 O f d (f_Calendarhall_addCosts_28 O f n) ih v0 v1 v2 v3 v4 v5 v6 x4 x6 v9 v10 v11 (v2 + (15 * v11)) M2)
def f_Calendarhall_addCosts (O : Nat → Option va_E) (f : Nat) (v0 : Nat) (v1 : Nat) (v2 : Int) (v3 : Int) (v4 : Int) (v5 : Int) (M : xM) : Option (Unit × xM) :=
  (gR O M v0 12 0).bind fun x1 =>
  (gJ O M v1 6 0).bind fun x2 =>
  (isO O M x1 4).bind fun _ =>
  xcl (f_Hall_anyZone O f x1 x2 M) fun x3 M1 =>
  f_Calendarhall_addCosts_28 O f f v0 v1 v2 v3 v4 v5 x3 v2 v2 v2 v2 0 M1
set_option maxRecDepth 20000 in
theorem k_f_Calendarhall_addCosts (O : Nat → Option va_E) (f d : Nat) (v0 : Nat) (v1 : Nat) (v2 : Int) (v3 : Int) (v4 : Int) (v5 : Int) (M : xM) : xZ oU O (d + 5) 185 0 [(0, .ref v0), (1, .ref v1), (2, .int (yw v2)), (3, .int (yw v3)), (4, .int (yw v4)), (5, .int (yw v5))] [] M (f_Calendarhall_addCosts O f v0 v1 v2 v3 v4 v5 M) := by
  unfold f_Calendarhall_addCosts
  refine xZ.adv (me := xm185) hP_185 1 (pc' := 1) (lv' := [(0, .ref v0), (1, .ref v1), (2, .int (yw v2)), (3, .int (yw v3)), (4, .int (yw v4)), (5, .int (yw v5))]) (st' := [.ref v0]) rfl ?_
  refine xZ.k_gR (me := xm185) hP_185 rfl (fun x1 => ?_)
  refine xZ.adv (me := xm185) hP_185 1 (pc' := 5) (lv' := [(0, .ref v0), (1, .ref v1), (2, .int (yw v2)), (3, .int (yw v3)), (4, .int (yw v4)), (5, .int (yw v5))]) (st' := [.ref v1, .ref x1]) rfl ?_
  refine xZ.k_gJ (me := xm185) hP_185 rfl (fun x2 => ?_)
  refine xZ.callv (κ := oR) (av := [.int (yw x2)]) (rest := []) (st' := fun x3 => [.ref x3]) (k0 := x1) (me := xm185) hP_185 rfl (Or.inl rfl) ⟨rfl, by decide⟩ rfl rfl (Nat.le_of_ble_eq_true rfl) (by decide) hP_21 (Nat.le_of_ble_eq_true rfl) (fun _ => rfl) (k_f_Hall_anyZone O f (d + 4) x1 x2 M) (fun x3 M1 => ?_)
  refine xZ.adv (me := xm185) hP_185 11 (pc' := 28) (lv' := [(11, .int (0 : Int32)), (10, .int (yw v2)), (9, .int (yw v2)), (8, .int (yw v2)), (7, .int (yw v2)), (6, .ref x3), (0, .ref v0), (1, .ref v1), (2, .int (yw v2)), (3, .int (yw v3)), (4, .int (yw v4)), (5, .int (yw v5))]) (st' := []) rfl ?_
  refine xZ.eqs (lv2 := [(11, .int (yw 0)), (10, .int (yw v2)), (9, .int (yw v2)), (8, .int (yw v2)), (7, .int (yw v2)), (6, .ref x3), (0, .ref v0), (1, .ref v1), (2, .int (yw v2)), (3, .int (yw v3)), (4, .int (yw v4)), (5, .int (yw v5))]) (st2 := []) (by simp only [yl_lit, yL_lit, yw_add, yw_sub, yw_mul, yw_neg, yl_add, yl_sub, yl_mul, cj_and, cj_or, cj_xor, cj_shl, cj_shr, cj_ushr, cj_div, cj_i2c, cj_i2b, cj_dc, ck_and, ck_or, ck_xor, ck_shl, ck_shr, ck_ushr, ck_i2l, ck_l2i, ck_cmp]) rfl ?_
  exact xZ.sub (xsc (.tail _ (.tail _ (.tail _ (.tail _ (.tail _ (.tail _ (.head _))))))) (xsc (.tail _ (.tail _ (.tail _ (.tail _ (.tail _ (.tail _ (.tail _ (.head _)))))))) (xsc (.tail _ (.tail _ (.tail _ (.tail _ (.tail _ (.tail _ (.tail _ (.tail _ (.head _))))))))) (xsc (.tail _ (.tail _ (.tail _ (.tail _ (.tail _ (.tail _ (.tail _ (.tail _ (.tail _ (.head _)))))))))) (xsc (.tail _ (.tail _ (.tail _ (.tail _ (.tail _ (.tail _ (.tail _ (.tail _ (.tail _ (.tail _ (.head _))))))))))) (xsc (.tail _ (.tail _ (.tail _ (.tail _ (.tail _ (.tail _ (.tail _ (.tail _ (.tail _ (.tail _ (.tail _ (.head _)))))))))))) (xsc (.tail _ (.tail _ (.tail _ (.tail _ (.tail _ (.head _)))))) (xsc (.tail _ (.tail _ (.tail _ (.tail _ (.head _))))) (xsc (.tail _ (.tail _ (.tail _ (.head _)))) (xsc (.tail _ (.tail _ (.head _))) (xsc (.tail _ (.head _)) (xsc (.head _) xsn)))))))))))) (show ([11, 10, 9, 8, 7, 6, 0, 1, 2, 3, 4, 5] : List Nat).Nodup from by decide) (k_f_Calendarhall_addCosts_28 O f d f v0 v1 v2 v3 v4 v5 x3 v2 v2 v2 v2 0 M1)
