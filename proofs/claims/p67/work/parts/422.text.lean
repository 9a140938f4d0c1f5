/-! ===== texts ===== -/
def f_Law_law (O : Nat → Option va_E) (f : Nat) (v0 : Nat) (M : xM) : Option (Int × xM) :=
  xcl (nO M 15) fun x1 M1 =>
  xcl (f_LDraw_ctor O f x1 v0 M1) fun _ M2 =>
  xcl (nO M2 12) fun x3 M3 =>
  xcl (f_Calendarhall_ctor O f x3 M3) fun _ M4 =>
  (isO O M4 x1 15).bind fun _ =>
  xcl (f_LDraw_n O f x1 10 M4) fun x5 M5 =>
  if yw x5 = yw 0 then (
    xcl (f_Law_areDays O f x3 x1 M5) fun x6 M6 =>
    if xfit .boolean (.int (yw x6)) = true then some (x6, M6) else none
  ) else
  if yw x5 = yw 1 then (
    xcl (f_Law_areDays O f x3 x1 M5) fun x7 M7 =>
    if xfit .boolean (.int (yw x7)) = true then some (x7, M7) else none
  ) else
  if yw x5 = yw 2 then (
    xcl (f_Law_areDays O f x3 x1 M5) fun x8 M8 =>
    if xfit .boolean (.int (yw x8)) = true then some (x8, M8) else none
  ) else
  if yw x5 = yw 3 then (
    xcl (f_Law_areZones O f x3 x1 M5) fun x9 M9 =>
    if xfit .boolean (.int (yw x9)) = true then some (x9, M9) else none
  ) else
  if yw x5 = yw 4 then (
    xcl (f_Law_areZones O f x3 x1 M5) fun x10 M10 =>
    if xfit .boolean (.int (yw x10)) = true then some (x10, M10) else none
  ) else
  if yw x5 = yw 5 then (
    xcl (f_Law_areFree O f x3 x1 M5) fun x11 M11 =>
    if xfit .boolean (.int (yw x11)) = true then some (x11, M11) else none
  ) else
  if yw x5 = yw 6 then (
    xcl (f_Law_areLaid O f x3 x1 M5) fun x12 M12 =>
    if xfit .boolean (.int (yw x12)) = true then some (x12, M12) else none
  ) else
  if yw x5 = yw 7 then (
    xcl (f_Law_isPlanned O f x3 x1 M5) fun x13 M13 =>
    if xfit .boolean (.int (yw x13)) = true then some (x13, M13) else none
  ) else
  if yw x5 = yw 8 then (
    xcl (f_Law_areRung O f x3 x1 M5) fun x14 M14 =>
    if xfit .boolean (.int (yw x14)) = true then some (x14, M14) else none
  ) else
  xcl (f_Law_areAlike O f x3 x1 M5) fun x15 M15 =>
  if xfit .boolean (.int (yw x15)) = true then some (x15, M15) else none
set_option maxRecDepth 20000 in
theorem k_f_Law_law (O : Nat → Option va_E) (f d : Nat) (v0 : Nat) (M : xM) : xZ oJ O (d + 70) 1000 0 [(0, .ref v0)] [] M (f_Law_law O f v0 M) := by
  unfold f_Law_law
  refine xZ.k_nO (me := xm1000) hP_1000 rfl rfl (fun x1 M1 => ?_)
  refine xZ.adv (me := xm1000) hP_1000 2 (pc' := 5) (lv' := [(0, .ref v0)]) (st' := [.ref v0, .ref x1, .ref x1]) rfl ?_
  refine xZ.calli (κ := oU) (av := [.ref v0]) (rest := [.ref x1]) (st' := fun _ => [.ref x1]) (k0 := x1) (me := xm1000) hP_1000 rfl (Or.inl rfl) rfl rfl (Nat.le_of_ble_eq_true rfl) (by decide) hP_11 (Nat.le_of_ble_eq_true rfl) (fun _ => rfl) (k_f_LDraw_ctor O f (d + 69) x1 v0 M1) (fun _ M2 => ?_)
  refine xZ.adv (me := xm1000) hP_1000 1 (pc' := 9) (lv' := [(1, .ref x1), (0, .ref v0)]) (st' := []) rfl ?_
  refine xZ.k_nO (me := xm1000) hP_1000 rfl rfl (fun x3 M3 => ?_)
  refine xZ.adv (me := xm1000) hP_1000 1 (pc' := 13) (lv' := [(1, .ref x1), (0, .ref v0)]) (st' := [.ref x3, .ref x3]) rfl ?_
  refine xZ.calli (κ := oU) (av := []) (rest := [.ref x3]) (st' := fun _ => [.ref x3]) (k0 := x3) (me := xm1000) hP_1000 rfl (Or.inl rfl) rfl rfl (Nat.le_of_ble_eq_true rfl) (by decide) hP_0 (Nat.le_of_ble_eq_true rfl) (fun _ => rfl) (k_f_Calendarhall_ctor O f (d + 66) x3 M3) (fun _ M4 => ?_)
  refine xZ.adv (me := xm1000) hP_1000 3 (pc' := 20) (lv' := [(2, .ref x3), (1, .ref x1), (0, .ref v0)]) (st' := [.int (10 : Int32), .ref x1]) rfl ?_
  refine xZ.eqs (lv2 := [(2, .ref x3), (1, .ref x1), (0, .ref v0)]) (st2 := [.int (yw 10), .ref x1]) rfl (by simp only [yl_lit, yL_lit, yw_add, yw_sub, yw_mul, yw_neg, yl_add, yl_sub, yl_mul, cj_and, cj_or, cj_xor, cj_shl, cj_shr, cj_ushr, cj_div, cj_i2c, cj_i2b, cj_dc, ck_and, ck_or, ck_xor, ck_shl, ck_shr, ck_ushr, ck_i2l, ck_l2i, ck_cmp]) ?_
  refine xZ.callv (κ := oJ) (av := [.int (yw 10)]) (rest := []) (st' := fun x5 => [.int (yw x5)]) (k0 := x1) (me := xm1000) hP_1000 rfl (Or.inl rfl) ⟨rfl, by decide⟩ rfl rfl (Nat.le_of_ble_eq_true rfl) (by decide) hP_12 (Nat.le_of_ble_eq_true rfl) (fun _ => rfl) (k_f_LDraw_n O f (d + 69) x1 10 M4) (fun x5 M5 => ?_)
  refine xZ.cs (fun h1 => ?_) (fun h1 => ?_)
  · refine xZ.one (pc' := 72) (lv' := [(2, .ref x3), (1, .ref x1), (0, .ref v0)]) (st' := []) (me := xm1000) hP_1000 rfl (by rw [h1]; rfl) ?_
    refine xZ.adv (me := xm1000) hP_1000 2 (pc' := 74) (lv' := [(2, .ref x3), (1, .ref x1), (0, .ref v0)]) (st' := [.ref x1, .ref x3]) rfl ?_
    refine xZ.calls (κ := oJ) (av := [.ref x3, .ref x1]) (rest := []) (st' := fun x6 => [.int (yw x6)]) (me := xm1000) hP_1000 rfl rfl rfl (Nat.le_of_ble_eq_true rfl) (by decide) hP_13 (Nat.le_of_ble_eq_true rfl) (fun _ => rfl) (k_f_Law_areDays O f (d + 58) x3 x1 M5) (fun x6 M6 => ?_)
    exact xZ.jretf (me := xm1000) hP_1000 rfl rfl
  refine xZ.cs (fun h2 => ?_) (fun h2 => ?_)
  · refine xZ.one (pc' := 72) (lv' := [(2, .ref x3), (1, .ref x1), (0, .ref v0)]) (st' := []) (me := xm1000) hP_1000 rfl (by rw [h2]; rfl) ?_
    refine xZ.adv (me := xm1000) hP_1000 2 (pc' := 74) (lv' := [(2, .ref x3), (1, .ref x1), (0, .ref v0)]) (st' := [.ref x1, .ref x3]) rfl ?_
    refine xZ.calls (κ := oJ) (av := [.ref x3, .ref x1]) (rest := []) (st' := fun x7 => [.int (yw x7)]) (me := xm1000) hP_1000 rfl rfl rfl (Nat.le_of_ble_eq_true rfl) (by decide) hP_13 (Nat.le_of_ble_eq_true rfl) (fun _ => rfl) (k_f_Law_areDays O f (d + 58) x3 x1 M5) (fun x7 M7 => ?_)
    exact xZ.jretf (me := xm1000) hP_1000 rfl rfl
  refine xZ.cs (fun h3 => ?_) (fun h3 => ?_)
  · refine xZ.one (pc' := 72) (lv' := [(2, .ref x3), (1, .ref x1), (0, .ref v0)]) (st' := []) (me := xm1000) hP_1000 rfl (by rw [h3]; rfl) ?_
    refine xZ.adv (me := xm1000) hP_1000 2 (pc' := 74) (lv' := [(2, .ref x3), (1, .ref x1), (0, .ref v0)]) (st' := [.ref x1, .ref x3]) rfl ?_
    refine xZ.calls (κ := oJ) (av := [.ref x3, .ref x1]) (rest := []) (st' := fun x8 => [.int (yw x8)]) (me := xm1000) hP_1000 rfl rfl rfl (Nat.le_of_ble_eq_true rfl) (by decide) hP_13 (Nat.le_of_ble_eq_true rfl) (fun _ => rfl) (k_f_Law_areDays O f (d + 58) x3 x1 M5) (fun x8 M8 => ?_)
    exact xZ.jretf (me := xm1000) hP_1000 rfl rfl
  refine xZ.cs (fun h4 => ?_) (fun h4 => ?_)
  · refine xZ.one (pc' := 78) (lv' := [(2, .ref x3), (1, .ref x1), (0, .ref v0)]) (st' := []) (me := xm1000) hP_1000 rfl (by rw [h4]; rfl) ?_
    refine xZ.adv (me := xm1000) hP_1000 2 (pc' := 80) (lv' := [(2, .ref x3), (1, .ref x1), (0, .ref v0)]) (st' := [.ref x1, .ref x3]) rfl ?_
    refine xZ.calls (κ := oJ) (av := [.ref x3, .ref x1]) (rest := []) (st' := fun x9 => [.int (yw x9)]) (me := xm1000) hP_1000 rfl rfl rfl (Nat.le_of_ble_eq_true rfl) (by decide) hP_138 (Nat.le_of_ble_eq_true rfl) (fun _ => rfl) (k_f_Law_areZones O f (d + 62) x3 x1 M5) (fun x9 M9 => ?_)
    exact xZ.jretf (me := xm1000) hP_1000 rfl rfl
  refine xZ.cs (fun h5 => ?_) (fun h5 => ?_)
  · refine xZ.one (pc' := 78) (lv' := [(2, .ref x3), (1, .ref x1), (0, .ref v0)]) (st' := []) (me := xm1000) hP_1000 rfl (by rw [h5]; rfl) ?_
    refine xZ.adv (me := xm1000) hP_1000 2 (pc' := 80) (lv' := [(2, .ref x3), (1, .ref x1), (0, .ref v0)]) (st' := [.ref x1, .ref x3]) rfl ?_
    refine xZ.calls (κ := oJ) (av := [.ref x3, .ref x1]) (rest := []) (st' := fun x10 => [.int (yw x10)]) (me := xm1000) hP_1000 rfl rfl rfl (Nat.le_of_ble_eq_true rfl) (by decide) hP_138 (Nat.le_of_ble_eq_true rfl) (fun _ => rfl) (k_f_Law_areZones O f (d + 62) x3 x1 M5) (fun x10 M10 => ?_)
    exact xZ.jretf (me := xm1000) hP_1000 rfl rfl
  refine xZ.cs (fun h6 => ?_) (fun h6 => ?_)
  · refine xZ.one (pc' := 84) (lv' := [(2, .ref x3), (1, .ref x1), (0, .ref v0)]) (st' := []) (me := xm1000) hP_1000 rfl (by rw [h6]; rfl) ?_
    refine xZ.adv (me := xm1000) hP_1000 2 (pc' := 86) (lv' := [(2, .ref x3), (1, .ref x1), (0, .ref v0)]) (st' := [.ref x1, .ref x3]) rfl ?_
    refine xZ.calls (κ := oJ) (av := [.ref x3, .ref x1]) (rest := []) (st' := fun x11 => [.int (yw x11)]) (me := xm1000) hP_1000 rfl rfl rfl (Nat.le_of_ble_eq_true rfl) (by decide) hP_145 (Nat.le_of_ble_eq_true rfl) (fun _ => rfl) (k_f_Law_areFree O f (d + 60) x3 x1 M5) (fun x11 M11 => ?_)
    exact xZ.jretf (me := xm1000) hP_1000 rfl rfl
  refine xZ.cs (fun h7 => ?_) (fun h7 => ?_)
  · refine xZ.one (pc' := 90) (lv' := [(2, .ref x3), (1, .ref x1), (0, .ref v0)]) (st' := []) (me := xm1000) hP_1000 rfl (by rw [h7]; rfl) ?_
    refine xZ.adv (me := xm1000) hP_1000 2 (pc' := 92) (lv' := [(2, .ref x3), (1, .ref x1), (0, .ref v0)]) (st' := [.ref x1, .ref x3]) rfl ?_
    refine xZ.calls (κ := oJ) (av := [.ref x3, .ref x1]) (rest := []) (st' := fun x12 => [.int (yw x12)]) (me := xm1000) hP_1000 rfl rfl rfl (Nat.le_of_ble_eq_true rfl) (by decide) hP_186 (Nat.le_of_ble_eq_true rfl) (fun _ => rfl) (k_f_Law_areLaid O f (d + 60) x3 x1 M5) (fun x12 M12 => ?_)
    exact xZ.jretf (me := xm1000) hP_1000 rfl rfl
  refine xZ.cs (fun h8 => ?_) (fun h8 => ?_)
  · refine xZ.one (pc' := 96) (lv' := [(2, .ref x3), (1, .ref x1), (0, .ref v0)]) (st' := []) (me := xm1000) hP_1000 rfl (by rw [h8]; rfl) ?_
    refine xZ.adv (me := xm1000) hP_1000 2 (pc' := 98) (lv' := [(2, .ref x3), (1, .ref x1), (0, .ref v0)]) (st' := [.ref x1, .ref x3]) rfl ?_
    refine xZ.calls (κ := oJ) (av := [.ref x3, .ref x1]) (rest := []) (st' := fun x13 => [.int (yw x13)]) (me := xm1000) hP_1000 rfl rfl rfl (Nat.le_of_ble_eq_true rfl) (by decide) hP_203 (Nat.le_of_ble_eq_true rfl) (fun _ => rfl) (k_f_Law_isPlanned O f (d + 0) x3 x1 M5) (fun x13 M13 => ?_)
    exact xZ.jretf (me := xm1000) hP_1000 rfl rfl
  refine xZ.cs (fun h9 => ?_) (fun h9 => ?_)
  · refine xZ.one (pc' := 102) (lv' := [(2, .ref x3), (1, .ref x1), (0, .ref v0)]) (st' := []) (me := xm1000) hP_1000 rfl (by rw [h9]; rfl) ?_
    refine xZ.adv (me := xm1000) hP_1000 2 (pc' := 104) (lv' := [(2, .ref x3), (1, .ref x1), (0, .ref v0)]) (st' := [.ref x1, .ref x3]) rfl ?_
    refine xZ.calls (κ := oJ) (av := [.ref x3, .ref x1]) (rest := []) (st' := fun x14 => [.int (yw x14)]) (me := xm1000) hP_1000 rfl rfl rfl (Nat.le_of_ble_eq_true rfl) (by decide) hP_220 (Nat.le_of_ble_eq_true rfl) (fun _ => rfl) (k_f_Law_areRung O f (d + 60) x3 x1 M5) (fun x14 M14 => ?_)
    exact xZ.jretf (me := xm1000) hP_1000 rfl rfl
  refine xZ.tsw (pc' := 108) (me := xm1000) hP_1000 rfl (xsw_out (yw x5) (by decide) [(0 : Int32), (1 : Int32), (2 : Int32), (3 : Int32), (4 : Int32), (5 : Int32), (6 : Int32), (7 : Int32), (8 : Int32)] (by decide) ⟨h1, h2, h3, h4, h5, h6, h7, h8, h9, trivial⟩) rfl rfl ?_
  refine xZ.adv (me := xm1000) hP_1000 2 (pc' := 110) (lv' := [(2, .ref x3), (1, .ref x1), (0, .ref v0)]) (st' := [.ref x1, .ref x3]) rfl ?_
  refine xZ.calls (κ := oJ) (av := [.ref x3, .ref x1]) (rest := []) (st' := fun x15 => [.int (yw x15)]) (me := xm1000) hP_1000 rfl rfl rfl (Nat.le_of_ble_eq_true rfl) (by decide) hP_236 (Nat.le_of_ble_eq_true rfl) (fun _ => rfl) (k_f_Law_areAlike O f (d + 3) x3 x1 M5) (fun x15 M15 => ?_)
  exact xZ.jretf (me := xm1000) hP_1000 rfl rfl
