/-! ===== texts ===== -/
def f_Device_make (O : Nat → Option va_E) (f : Nat) (v0 : Nat) (v1 : Int32) (v2 : Int32) (v3 : Int32) (M : xM) : Option (Unit × xM) :=
  (gI O M v0 3 1).bind fun x1 =>
  if x1 < 0 then (
    some ((), M)
  ) else
  (gI O M v0 3 1).bind fun x2 =>
  if x2 < (40 : Int32) then (
    (gI O M v0 3 0).bind fun x3 =>
    (pI M v0 3 0 (x3 + (1 : Int32))).bind fun M1 =>
    (gR O M1 v0 3 2).bind fun x4 =>
    (gI O M1 v0 3 1).bind fun x5 =>
    (wI M1 x4 x5 v2).bind fun M2 =>
    (gR O M2 v0 3 3).bind fun x6 =>
    (gI O M2 v0 3 1).bind fun x7 =>
    (wI M2 x6 x7 v3).bind fun M3 =>
    (gR O M3 v0 3 4).bind fun x8 =>
    (gI O M3 v0 3 1).bind fun x9 =>
    (gI O M3 v0 3 0).bind fun x10 =>
    (wI M3 x8 x9 x10).bind fun M4 =>
    (gI O M4 v0 3 1).bind fun x11 =>
    (pI M4 v0 3 1 (x11 + (1 : Int32))).bind fun M5 =>
    (gI O M5 v0 3 0).bind fun x12 =>
    (isO O M5 v0 3).bind fun _ =>
    xcl (f_Device_show O f v0 v1 v2 v3 x12 M5) fun _ M6 =>
    some ((), M6)
  ) else
  some ((), M)
set_option maxRecDepth 20000 in
theorem k_f_Device_make (O : Nat → Option va_E) (f d : Nat) (v0 : Nat) (v1 : Int32) (v2 : Int32) (v3 : Int32) (M : xM) : xZ oU O (d + 1) 239 0 [(0, .ref v0), (1, .int v1), (2, .int v2), (3, .int v3)] [] M (f_Device_make O f v0 v1 v2 v3 M) := by
  unfold f_Device_make
  refine xZ.adv (me := xm239) hP_239 1 (pc' := 1) (lv' := [(0, .ref v0), (1, .int v1), (2, .int v2), (3, .int v3)]) (st' := [.ref v0]) rfl ?_
  refine xZ.k_gI (me := xm239) hP_239 rfl (fun x1 => ?_)
  refine xZ.if_lt (me := xm239) hP_239 rfl (fun h1 => ?_) (fun h1 => ?_)
  · skip
    exact xZ.retu (me := xm239) hP_239 rfl rfl
  · skip
    refine xZ.adv (me := xm239) hP_239 1 (pc' := 8) (lv' := [(0, .ref v0), (1, .int v1), (2, .int v2), (3, .int v3)]) (st' := [.ref v0]) rfl ?_
    refine xZ.k_gI (me := xm239) hP_239 rfl (fun x2 => ?_)
    refine xZ.adv (me := xm239) hP_239 1 (pc' := 13) (lv' := [(0, .ref v0), (1, .int v1), (2, .int v2), (3, .int v3)]) (st' := [.int (40 : Int32), .int x2]) rfl ?_
    refine xZ.ic_lt (me := xm239) hP_239 rfl (fun h2 => ?_) (fun h2 => ?_)
    · skip
      refine xZ.adv (me := xm239) hP_239 2 (pc' := 19) (lv' := [(0, .ref v0), (1, .int v1), (2, .int v2), (3, .int v3)]) (st' := [.ref v0, .ref v0]) rfl ?_
      refine xZ.k_gI (me := xm239) hP_239 rfl (fun x3 => ?_)
      refine xZ.adv (me := xm239) hP_239 2 (pc' := 24) (lv' := [(0, .ref v0), (1, .int v1), (2, .int v2), (3, .int v3)]) (st' := [.int (x3 + (1 : Int32)), .ref v0]) rfl ?_
      refine xZ.k_pI (me := xm239) hP_239 rfl (fun M1 => ?_)
      refine xZ.adv (me := xm239) hP_239 1 (pc' := 28) (lv' := [(0, .ref v0), (1, .int v1), (2, .int v2), (3, .int v3)]) (st' := [.ref v0]) rfl ?_
      refine xZ.k_gR (me := xm239) hP_239 rfl (fun x4 => ?_)
      refine xZ.adv (me := xm239) hP_239 1 (pc' := 32) (lv' := [(0, .ref v0), (1, .int v1), (2, .int v2), (3, .int v3)]) (st' := [.ref v0, .ref x4]) rfl ?_
      refine xZ.k_gI (me := xm239) hP_239 rfl (fun x5 => ?_)
      refine xZ.adv (me := xm239) hP_239 1 (pc' := 36) (lv' := [(0, .ref v0), (1, .int v1), (2, .int v2), (3, .int v3)]) (st' := [.int v2, .int x5, .ref x4]) rfl ?_
      refine xZ.k_wI (me := xm239) hP_239 rfl (fun M2 => ?_)
      refine xZ.adv (me := xm239) hP_239 1 (pc' := 38) (lv' := [(0, .ref v0), (1, .int v1), (2, .int v2), (3, .int v3)]) (st' := [.ref v0]) rfl ?_
      refine xZ.k_gR (me := xm239) hP_239 rfl (fun x6 => ?_)
      refine xZ.adv (me := xm239) hP_239 1 (pc' := 42) (lv' := [(0, .ref v0), (1, .int v1), (2, .int v2), (3, .int v3)]) (st' := [.ref v0, .ref x6]) rfl ?_
      refine xZ.k_gI (me := xm239) hP_239 rfl (fun x7 => ?_)
      refine xZ.adv (me := xm239) hP_239 1 (pc' := 46) (lv' := [(0, .ref v0), (1, .int v1), (2, .int v2), (3, .int v3)]) (st' := [.int v3, .int x7, .ref x6]) rfl ?_
      refine xZ.k_wI (me := xm239) hP_239 rfl (fun M3 => ?_)
      refine xZ.adv (me := xm239) hP_239 1 (pc' := 48) (lv' := [(0, .ref v0), (1, .int v1), (2, .int v2), (3, .int v3)]) (st' := [.ref v0]) rfl ?_
      refine xZ.k_gR (me := xm239) hP_239 rfl (fun x8 => ?_)
      refine xZ.adv (me := xm239) hP_239 1 (pc' := 52) (lv' := [(0, .ref v0), (1, .int v1), (2, .int v2), (3, .int v3)]) (st' := [.ref v0, .ref x8]) rfl ?_
      refine xZ.k_gI (me := xm239) hP_239 rfl (fun x9 => ?_)
      refine xZ.adv (me := xm239) hP_239 1 (pc' := 56) (lv' := [(0, .ref v0), (1, .int v1), (2, .int v2), (3, .int v3)]) (st' := [.ref v0, .int x9, .ref x8]) rfl ?_
      refine xZ.k_gI (me := xm239) hP_239 rfl (fun x10 => ?_)
      refine xZ.k_wI (me := xm239) hP_239 rfl (fun M4 => ?_)
      refine xZ.adv (me := xm239) hP_239 2 (pc' := 62) (lv' := [(0, .ref v0), (1, .int v1), (2, .int v2), (3, .int v3)]) (st' := [.ref v0, .ref v0]) rfl ?_
      refine xZ.k_gI (me := xm239) hP_239 rfl (fun x11 => ?_)
      refine xZ.adv (me := xm239) hP_239 2 (pc' := 67) (lv' := [(0, .ref v0), (1, .int v1), (2, .int v2), (3, .int v3)]) (st' := [.int (x11 + (1 : Int32)), .ref v0]) rfl ?_
      refine xZ.k_pI (me := xm239) hP_239 rfl (fun M5 => ?_)
      refine xZ.adv (me := xm239) hP_239 5 (pc' := 75) (lv' := [(0, .ref v0), (1, .int v1), (2, .int v2), (3, .int v3)]) (st' := [.ref v0, .int v3, .int v2, .int v1, .ref v0]) rfl ?_
      refine xZ.k_gI (me := xm239) hP_239 rfl (fun x12 => ?_)
      refine xZ.callv (κ := oU) (av := [.int v1, .int v2, .int v3, .int x12]) (rest := []) (st' := fun _ => []) (k0 := v0) (me := xm239) hP_239 rfl (Or.inl rfl) ⟨rfl, by decide⟩ rfl rfl (Nat.le_of_ble_eq_true rfl) (by decide) hP_240 (Nat.le_of_ble_eq_true rfl) (fun _ => rfl) (k_f_Device_show O f (d + 0) v0 v1 v2 v3 x12 M5) (fun _ M6 => ?_)
      exact xZ.retu (me := xm239) hP_239 rfl rfl
    · skip
      exact xZ.retu (me := xm239) hP_239 rfl rfl
def f_Calendarhall_change (O : Nat → Option va_E) (f : Nat) (v0 : Nat) (v1 : Int32) (v2 : Int32) (v3 : Int32) (v4 : Int32) (M : xM) : Option (Int32 × xM) :=
  (isO O M v0 12).bind fun _ =>
  xcl (f_Calendarhall_deviceNumbered O f v0 v1 M) fun x1 M1 =>
  xcl (f_Calendarhall_needRange O f v2 (0 : Int32) (11 : Int32) M1) fun _ M2 =>
  xcl (f_Calendarhall_needRange O f v3 (0 : Int32) (3 : Int32) M2) fun _ M3 =>
  xcl (f_Calendarhall_needRange O f v4 (0 : Int32) (999 : Int32) M3) fun _ M4 =>
  (gI O M4 x1 3 1).bind fun x5 =>
  if x5 < (40 : Int32) then (
    (isO O M4 v0 12).bind fun _ =>
    xcl (f_Calendarhall_saveForUndo O f v0 M4) fun _ M5 =>
    (isO O M5 x1 3).bind fun _ =>
    xcl (f_Device_make O f x1 v1 ((v2 * (4 : Int32)) + v3) v4 M5) fun _ M6 =>
    (gI O M6 x1 3 0).bind fun x8 =>
    some (x8, M6)
  ) else
  none
set_option maxRecDepth 20000 in
theorem k_f_Calendarhall_change (O : Nat → Option va_E) (f d : Nat) (v0 : Nat) (v1 : Int32) (v2 : Int32) (v3 : Int32) (v4 : Int32) (M : xM) : xZ oI O (d + 5) 237 0 [(0, .ref v0), (1, .int v1), (2, .int v2), (3, .int v3), (4, .int v4)] [] M (f_Calendarhall_change O f v0 v1 v2 v3 v4 M) := by
  unfold f_Calendarhall_change
  refine xZ.adv (me := xm237) hP_237 2 (pc' := 2) (lv' := [(0, .ref v0), (1, .int v1), (2, .int v2), (3, .int v3), (4, .int v4)]) (st' := [.int v1, .ref v0]) rfl ?_
  refine xZ.callv (κ := oR) (av := [.int v1]) (rest := []) (st' := fun x1 => [.ref x1]) (k0 := v0) (me := xm237) hP_237 rfl (Or.inl rfl) ⟨rfl, by decide⟩ rfl rfl (Nat.le_of_ble_eq_true rfl) (by decide) hP_238 (Nat.le_of_ble_eq_true rfl) (fun _ => rfl) (k_f_Calendarhall_deviceNumbered O f (d + 3) v0 v1 M) (fun x1 M1 => ?_)
  refine xZ.adv (me := xm237) hP_237 4 (pc' := 11) (lv' := [(5, .ref x1), (0, .ref v0), (1, .int v1), (2, .int v2), (3, .int v3), (4, .int v4)]) (st' := [.int (11 : Int32), .int (0 : Int32), .int v2]) rfl ?_
  refine xZ.calls (κ := oU) (av := [.int v2, .int (0 : Int32), .int (11 : Int32)]) (rest := []) (st' := fun _ => []) (me := xm237) hP_237 rfl rfl rfl (Nat.le_of_ble_eq_true rfl) (by decide) hP_22 (Nat.le_of_ble_eq_true rfl) (fun _ => rfl) (k_f_Calendarhall_needRange O f (d + 4) v2 (0 : Int32) (11 : Int32) M1) (fun _ M2 => ?_)
  refine xZ.adv (me := xm237) hP_237 3 (pc' := 17) (lv' := [(5, .ref x1), (0, .ref v0), (1, .int v1), (2, .int v2), (3, .int v3), (4, .int v4)]) (st' := [.int (3 : Int32), .int (0 : Int32), .int v3]) rfl ?_
  refine xZ.calls (κ := oU) (av := [.int v3, .int (0 : Int32), .int (3 : Int32)]) (rest := []) (st' := fun _ => []) (me := xm237) hP_237 rfl rfl rfl (Nat.le_of_ble_eq_true rfl) (by decide) hP_22 (Nat.le_of_ble_eq_true rfl) (fun _ => rfl) (k_f_Calendarhall_needRange O f (d + 4) v3 (0 : Int32) (3 : Int32) M2) (fun _ M3 => ?_)
  refine xZ.adv (me := xm237) hP_237 3 (pc' := 26) (lv' := [(5, .ref x1), (0, .ref v0), (1, .int v1), (2, .int v2), (3, .int v3), (4, .int v4)]) (st' := [.int (999 : Int32), .int (0 : Int32), .int v4]) rfl ?_
  refine xZ.calls (κ := oU) (av := [.int v4, .int (0 : Int32), .int (999 : Int32)]) (rest := []) (st' := fun _ => []) (me := xm237) hP_237 rfl rfl rfl (Nat.le_of_ble_eq_true rfl) (by decide) hP_22 (Nat.le_of_ble_eq_true rfl) (fun _ => rfl) (k_f_Calendarhall_needRange O f (d + 4) v4 (0 : Int32) (999 : Int32) M3) (fun _ M4 => ?_)
  refine xZ.adv (me := xm237) hP_237 1 (pc' := 31) (lv' := [(5, .ref x1), (0, .ref v0), (1, .int v1), (2, .int v2), (3, .int v3), (4, .int v4)]) (st' := [.ref x1]) rfl ?_
  refine xZ.k_gI (me := xm237) hP_237 rfl (fun x5 => ?_)
  refine xZ.adv (me := xm237) hP_237 1 (pc' := 36) (lv' := [(5, .ref x1), (0, .ref v0), (1, .int v1), (2, .int v2), (3, .int v3), (4, .int v4)]) (st' := [.int (40 : Int32), .int x5]) rfl ?_
  refine xZ.ic_lt (me := xm237) hP_237 rfl (fun h1 => ?_) (fun h1 => ?_)
  · skip
    refine xZ.adv (me := xm237) hP_237 1 (pc' := 48) (lv' := [(5, .ref x1), (0, .ref v0), (1, .int v1), (2, .int v2), (3, .int v3), (4, .int v4)]) (st' := [.ref v0]) rfl ?_
    refine xZ.callv (κ := oU) (av := []) (rest := []) (st' := fun _ => []) (k0 := v0) (me := xm237) hP_237 rfl (Or.inl rfl) ⟨rfl, by decide⟩ rfl rfl (Nat.le_of_ble_eq_true rfl) (by decide) hP_23 (Nat.le_of_ble_eq_true rfl) (fun _ => rfl) (k_f_Calendarhall_saveForUndo O f (d + 0) v0 M4) (fun _ M5 => ?_)
    refine xZ.adv (me := xm237) hP_237 8 (pc' := 61) (lv' := [(5, .ref x1), (0, .ref v0), (1, .int v1), (2, .int v2), (3, .int v3), (4, .int v4)]) (st' := [.int v4, .int ((v2 * (4 : Int32)) + v3), .int v1, .ref x1]) rfl ?_
    refine xZ.callv (κ := oU) (av := [.int v1, .int ((v2 * (4 : Int32)) + v3), .int v4]) (rest := []) (st' := fun _ => []) (k0 := x1) (me := xm237) hP_237 rfl (Or.inl rfl) ⟨rfl, by decide⟩ rfl rfl (Nat.le_of_ble_eq_true rfl) (by decide) hP_239 (Nat.le_of_ble_eq_true rfl) (fun _ => rfl) (k_f_Device_make O f (d + 3) x1 v1 ((v2 * (4 : Int32)) + v3) v4 M5) (fun _ M6 => ?_)
    refine xZ.adv (me := xm237) hP_237 1 (pc' := 66) (lv' := [(5, .ref x1), (0, .ref v0), (1, .int v1), (2, .int v2), (3, .int v3), (4, .int v4)]) (st' := [.ref x1]) rfl ?_
    refine xZ.k_gI (me := xm237) hP_237 rfl (fun x8 => ?_)
    exact xZ.reti (me := xm237) hP_237 rfl rfl
  · skip
    exact xZ.no
def f_Device_valueAt (O : Nat → Option va_E) (f : Nat) (v0 : Nat) (v1 : Int32) (M : xM) : Option (Int32 × xM) :=
  if v1 < 0 then (
    some ((-1 : Int32), M)
  ) else
  (gR O M v0 3 5).bind fun x1 =>
  (aN O M x1).bind fun x2 =>
  if x2 ≤ v1 then (
    some ((-1 : Int32), M)
  ) else
  (gR O M v0 3 5).bind fun x3 =>
  (aI O M x3 v1).bind fun x4 =>
  some (x4, M)
set_option maxRecDepth 20000 in
theorem k_f_Device_valueAt (O : Nat → Option va_E) (f d : Nat) (v0 : Nat) (v1 : Int32) (M : xM) : xZ oI O (d + 0) 242 0 [(0, .ref v0), (1, .int v1)] [] M (f_Device_valueAt O f v0 v1 M) := by
  unfold f_Device_valueAt
  refine xZ.adv (me := xm242) hP_242 1 (pc' := 1) (lv' := [(0, .ref v0), (1, .int v1)]) (st' := [.int v1]) rfl ?_
  refine xZ.if_lt (me := xm242) hP_242 rfl (fun h1 => ?_) (fun h1 => ?_)
  · skip
    refine xZ.adv (me := xm242) hP_242 1 (pc' := 23) (lv' := [(0, .ref v0), (1, .int v1)]) (st' := [.int (-1 : Int32)]) rfl ?_
    exact xZ.reti (me := xm242) hP_242 rfl rfl
  · skip
    refine xZ.adv (me := xm242) hP_242 2 (pc' := 6) (lv' := [(0, .ref v0), (1, .int v1)]) (st' := [.ref v0, .int v1]) rfl ?_
    refine xZ.k_gR (me := xm242) hP_242 rfl (fun x1 => ?_)
    refine xZ.k_aN (me := xm242) hP_242 rfl (fun x2 => ?_)
    refine xZ.ic_ge (me := xm242) hP_242 rfl (fun h2 => ?_) (fun h2 => ?_)
    · skip
      refine xZ.adv (me := xm242) hP_242 1 (pc' := 23) (lv' := [(0, .ref v0), (1, .int v1)]) (st' := [.int (-1 : Int32)]) rfl ?_
      exact xZ.reti (me := xm242) hP_242 rfl rfl
    · skip
      refine xZ.adv (me := xm242) hP_242 1 (pc' := 14) (lv' := [(0, .ref v0), (1, .int v1)]) (st' := [.ref v0]) rfl ?_
      refine xZ.k_gR (me := xm242) hP_242 rfl (fun x3 => ?_)
      refine xZ.adv (me := xm242) hP_242 1 (pc' := 18) (lv' := [(0, .ref v0), (1, .int v1)]) (st' := [.int v1, .ref x3]) rfl ?_
      refine xZ.k_aI (me := xm242) hP_242 rfl (fun x4 => ?_)
      refine xZ.adv (me := xm242) hP_242 1 (pc' := 23) (lv' := [(0, .ref v0), (1, .int v1)]) (st' := [.int x4]) rfl ?_
      exact xZ.reti (me := xm242) hP_242 rfl rfl
def f_Calendarhall_shown (O : Nat → Option va_E) (f : Nat) (v0 : Nat) (v1 : Int32) (v2 : Int32) (v3 : Int32) (M : xM) : Option (Int32 × xM) :=
  (isO O M v0 12).bind fun _ =>
  xcl (f_Calendarhall_deviceNumbered O f v0 v1 M) fun x1 M1 =>
  xcl (f_Calendarhall_needRange O f v2 (0 : Int32) (11 : Int32) M1) fun _ M2 =>
  xcl (f_Calendarhall_needRange O f v3 (0 : Int32) (3 : Int32) M2) fun _ M3 =>
  (isO O M3 x1 3).bind fun _ =>
  xcl (f_Device_valueAt O f x1 ((v2 * (4 : Int32)) + v3) M3) fun x4 M4 =>
  some (x4, M4)
set_option maxRecDepth 20000 in
theorem k_f_Calendarhall_shown (O : Nat → Option va_E) (f d : Nat) (v0 : Nat) (v1 : Int32) (v2 : Int32) (v3 : Int32) (M : xM) : xZ oI O (d + 2) 241 0 [(0, .ref v0), (1, .int v1), (2, .int v2), (3, .int v3)] [] M (f_Calendarhall_shown O f v0 v1 v2 v3 M) := by
  unfold f_Calendarhall_shown
  refine xZ.adv (me := xm241) hP_241 2 (pc' := 2) (lv' := [(0, .ref v0), (1, .int v1), (2, .int v2), (3, .int v3)]) (st' := [.int v1, .ref v0]) rfl ?_
  refine xZ.callv (κ := oR) (av := [.int v1]) (rest := []) (st' := fun x1 => [.ref x1]) (k0 := v0) (me := xm241) hP_241 rfl (Or.inl rfl) ⟨rfl, by decide⟩ rfl rfl (Nat.le_of_ble_eq_true rfl) (by decide) hP_238 (Nat.le_of_ble_eq_true rfl) (fun _ => rfl) (k_f_Calendarhall_deviceNumbered O f (d + 0) v0 v1 M) (fun x1 M1 => ?_)
  refine xZ.adv (me := xm241) hP_241 4 (pc' := 11) (lv' := [(4, .ref x1), (0, .ref v0), (1, .int v1), (2, .int v2), (3, .int v3)]) (st' := [.int (11 : Int32), .int (0 : Int32), .int v2]) rfl ?_
  refine xZ.calls (κ := oU) (av := [.int v2, .int (0 : Int32), .int (11 : Int32)]) (rest := []) (st' := fun _ => []) (me := xm241) hP_241 rfl rfl rfl (Nat.le_of_ble_eq_true rfl) (by decide) hP_22 (Nat.le_of_ble_eq_true rfl) (fun _ => rfl) (k_f_Calendarhall_needRange O f (d + 1) v2 (0 : Int32) (11 : Int32) M1) (fun _ M2 => ?_)
  refine xZ.adv (me := xm241) hP_241 3 (pc' := 17) (lv' := [(4, .ref x1), (0, .ref v0), (1, .int v1), (2, .int v2), (3, .int v3)]) (st' := [.int (3 : Int32), .int (0 : Int32), .int v3]) rfl ?_
  refine xZ.calls (κ := oU) (av := [.int v3, .int (0 : Int32), .int (3 : Int32)]) (rest := []) (st' := fun _ => []) (me := xm241) hP_241 rfl rfl rfl (Nat.le_of_ble_eq_true rfl) (by decide) hP_22 (Nat.le_of_ble_eq_true rfl) (fun _ => rfl) (k_f_Calendarhall_needRange O f (d + 1) v3 (0 : Int32) (3 : Int32) M2) (fun _ M3 => ?_)
  refine xZ.adv (me := xm241) hP_241 6 (pc' := 27) (lv' := [(4, .ref x1), (0, .ref v0), (1, .int v1), (2, .int v2), (3, .int v3)]) (st' := [.int ((v2 * (4 : Int32)) + v3), .ref x1]) rfl ?_
  refine xZ.callv (κ := oI) (av := [.int ((v2 * (4 : Int32)) + v3)]) (rest := []) (st' := fun x4 => [.int x4]) (k0 := x1) (me := xm241) hP_241 rfl (Or.inl rfl) ⟨rfl, by decide⟩ rfl rfl (Nat.le_of_ble_eq_true rfl) (by decide) hP_242 (Nat.le_of_ble_eq_true rfl) (fun _ => rfl) (k_f_Device_valueAt O f (d + 1) x1 ((v2 * (4 : Int32)) + v3) M3) (fun x4 M4 => ?_)
  exact xZ.reti (me := xm241) hP_241 rfl rfl
def f_Device_receive (O : Nat → Option va_E) (f : Nat) (v0 : Nat) (v1 : Nat) (v2 : Int32) (v3 : Int32) (M : xM) : Option (Unit × xM) :=
  if v3 < 0 then (
    some ((), M)
  ) else
  if v3 < (40 : Int32) then (
    (gI O M v0 3 0).bind fun x1 =>
    (gR O M v1 3 4).bind fun x2 =>
    (aI O M x2 v3).bind fun x3 =>
    xcl (f_Math_max O f x1 x3 M) fun x4 M1 =>
    (pI M1 v0 3 0 x4).bind fun M2 =>
    (gR O M2 v1 3 2).bind fun x5 =>
    (aI O M2 x5 v3).bind fun x6 =>
    (gR O M2 v1 3 3).bind fun x7 =>
    (aI O M2 x7 v3).bind fun x8 =>
    (gR O M2 v1 3 4).bind fun x9 =>
    (aI O M2 x9 v3).bind fun x10 =>
    (isO O M2 v0 3).bind fun _ =>
    xcl (f_Device_show O f v0 v2 x6 x8 x10 M2) fun _ M3 =>
    some ((), M3)
  ) else
  some ((), M)
set_option maxRecDepth 20000 in
theorem k_f_Device_receive (O : Nat → Option va_E) (f d : Nat) (v0 : Nat) (v1 : Nat) (v2 : Int32) (v3 : Int32) (M : xM) : xZ oU O (d + 1) 244 0 [(0, .ref v0), (1, .ref v1), (2, .int v2), (3, .int v3)] [] M (f_Device_receive O f v0 v1 v2 v3 M) := by
  unfold f_Device_receive
  refine xZ.adv (me := xm244) hP_244 1 (pc' := 1) (lv' := [(0, .ref v0), (1, .ref v1), (2, .int v2), (3, .int v3)]) (st' := [.int v3]) rfl ?_
  refine xZ.if_lt (me := xm244) hP_244 rfl (fun h1 => ?_) (fun h1 => ?_)
  · skip
    exact xZ.retu (me := xm244) hP_244 rfl rfl
  · skip
    refine xZ.adv (me := xm244) hP_244 2 (pc' := 7) (lv' := [(0, .ref v0), (1, .ref v1), (2, .int v2), (3, .int v3)]) (st' := [.int (40 : Int32), .int v3]) rfl ?_
    refine xZ.ic_lt (me := xm244) hP_244 rfl (fun h2 => ?_) (fun h2 => ?_)
    · skip
      refine xZ.adv (me := xm244) hP_244 2 (pc' := 13) (lv' := [(0, .ref v0), (1, .ref v1), (2, .int v2), (3, .int v3)]) (st' := [.ref v0, .ref v0]) rfl ?_
      refine xZ.k_gI (me := xm244) hP_244 rfl (fun x1 => ?_)
      refine xZ.adv (me := xm244) hP_244 1 (pc' := 17) (lv' := [(0, .ref v0), (1, .ref v1), (2, .int v2), (3, .int v3)]) (st' := [.ref v1, .int x1, .ref v0]) rfl ?_
      refine xZ.k_gR (me := xm244) hP_244 rfl (fun x2 => ?_)
      refine xZ.adv (me := xm244) hP_244 1 (pc' := 21) (lv' := [(0, .ref v0), (1, .ref v1), (2, .int v2), (3, .int v3)]) (st' := [.int v3, .ref x2, .int x1, .ref v0]) rfl ?_
      refine xZ.k_aI (me := xm244) hP_244 rfl (fun x3 => ?_)
      refine xZ.calls (κ := oI) (av := [.int x1, .int x3]) (rest := [.ref v0]) (st' := fun x4 => [.int x4, .ref v0]) (me := xm244) hP_244 rfl rfl rfl (Nat.le_of_ble_eq_true rfl) (by decide) hP_247 (Nat.le_of_ble_eq_true rfl) (fun _ => rfl) (k_f_Math_max O f (d + 0) x1 x3 M) (fun x4 M1 => ?_)
      refine xZ.k_pI (me := xm244) hP_244 rfl (fun M2 => ?_)
      refine xZ.adv (me := xm244) hP_244 3 (pc' := 31) (lv' := [(0, .ref v0), (1, .ref v1), (2, .int v2), (3, .int v3)]) (st' := [.ref v1, .int v2, .ref v0]) rfl ?_
      refine xZ.k_gR (me := xm244) hP_244 rfl (fun x5 => ?_)
      refine xZ.adv (me := xm244) hP_244 1 (pc' := 35) (lv' := [(0, .ref v0), (1, .ref v1), (2, .int v2), (3, .int v3)]) (st' := [.int v3, .ref x5, .int v2, .ref v0]) rfl ?_
      refine xZ.k_aI (me := xm244) hP_244 rfl (fun x6 => ?_)
      refine xZ.adv (me := xm244) hP_244 1 (pc' := 37) (lv' := [(0, .ref v0), (1, .ref v1), (2, .int v2), (3, .int v3)]) (st' := [.ref v1, .int x6, .int v2, .ref v0]) rfl ?_
      refine xZ.k_gR (me := xm244) hP_244 rfl (fun x7 => ?_)
      refine xZ.adv (me := xm244) hP_244 1 (pc' := 41) (lv' := [(0, .ref v0), (1, .ref v1), (2, .int v2), (3, .int v3)]) (st' := [.int v3, .ref x7, .int x6, .int v2, .ref v0]) rfl ?_
      refine xZ.k_aI (me := xm244) hP_244 rfl (fun x8 => ?_)
      refine xZ.adv (me := xm244) hP_244 1 (pc' := 43) (lv' := [(0, .ref v0), (1, .ref v1), (2, .int v2), (3, .int v3)]) (st' := [.ref v1, .int x8, .int x6, .int v2, .ref v0]) rfl ?_
      refine xZ.k_gR (me := xm244) hP_244 rfl (fun x9 => ?_)
      refine xZ.adv (me := xm244) hP_244 1 (pc' := 47) (lv' := [(0, .ref v0), (1, .ref v1), (2, .int v2), (3, .int v3)]) (st' := [.int v3, .ref x9, .int x8, .int x6, .int v2, .ref v0]) rfl ?_
      refine xZ.k_aI (me := xm244) hP_244 rfl (fun x10 => ?_)
      refine xZ.callv (κ := oU) (av := [.int v2, .int x6, .int x8, .int x10]) (rest := []) (st' := fun _ => []) (k0 := v0) (me := xm244) hP_244 rfl (Or.inl rfl) ⟨rfl, by decide⟩ rfl rfl (Nat.le_of_ble_eq_true rfl) (by decide) hP_240 (Nat.le_of_ble_eq_true rfl) (fun _ => rfl) (k_f_Device_show O f (d + 0) v0 v2 x6 x8 x10 M2) (fun _ M3 => ?_)
      exact xZ.retu (me := xm244) hP_244 rfl rfl
    · skip
      exact xZ.retu (me := xm244) hP_244 rfl rfl
def f_Calendarhall_deliver (O : Nat → Option va_E) (f : Nat) (v0 : Nat) (v1 : Int32) (v2 : Int32) (M : xM) : Option (Int32 × xM) :=
  (isO O M v0 12).bind fun _ =>
  xcl (f_Calendarhall_deviceNumbered O f v0 v1 M) fun x1 M1 =>
  if v2 < 0 then (
    none
  ) else
  (gI O M1 x1 3 1).bind fun x2 =>
  if v2 < x2 then (
    (isO O M1 v0 12).bind fun _ =>
    xcl (f_Calendarhall_deviceNumbered O f v0 ((1 : Int32) - v1) M1) fun x3 M2 =>
    (isO O M2 v0 12).bind fun _ =>
    xcl (f_Calendarhall_saveForUndo O f v0 M2) fun _ M3 =>
    (isO O M3 x3 3).bind fun _ =>
    xcl (f_Device_receive O f x3 x1 v1 v2 M3) fun _ M4 =>
    (gI O M4 x3 3 0).bind fun x6 =>
    some (x6, M4)
  ) else
  none
set_option maxRecDepth 20000 in
theorem k_f_Calendarhall_deliver (O : Nat → Option va_E) (f d : Nat) (v0 : Nat) (v1 : Int32) (v2 : Int32) (M : xM) : xZ oI O (d + 5) 243 0 [(0, .ref v0), (1, .int v1), (2, .int v2)] [] M (f_Calendarhall_deliver O f v0 v1 v2 M) := by
  unfold f_Calendarhall_deliver
  refine xZ.adv (me := xm243) hP_243 2 (pc' := 2) (lv' := [(0, .ref v0), (1, .int v1), (2, .int v2)]) (st' := [.int v1, .ref v0]) rfl ?_
  refine xZ.callv (κ := oR) (av := [.int v1]) (rest := []) (st' := fun x1 => [.ref x1]) (k0 := v0) (me := xm243) hP_243 rfl (Or.inl rfl) ⟨rfl, by decide⟩ rfl rfl (Nat.le_of_ble_eq_true rfl) (by decide) hP_238 (Nat.le_of_ble_eq_true rfl) (fun _ => rfl) (k_f_Calendarhall_deviceNumbered O f (d + 3) v0 v1 M) (fun x1 M1 => ?_)
  refine xZ.adv (me := xm243) hP_243 2 (pc' := 7) (lv' := [(3, .ref x1), (0, .ref v0), (1, .int v1), (2, .int v2)]) (st' := [.int v2]) rfl ?_
  refine xZ.if_lt (me := xm243) hP_243 rfl (fun h1 => ?_) (fun h1 => ?_)
  · skip
    exact xZ.no
  · skip
    refine xZ.adv (me := xm243) hP_243 2 (pc' := 12) (lv' := [(3, .ref x1), (0, .ref v0), (1, .int v1), (2, .int v2)]) (st' := [.ref x1, .int v2]) rfl ?_
    refine xZ.k_gI (me := xm243) hP_243 rfl (fun x2 => ?_)
    refine xZ.ic_lt (me := xm243) hP_243 rfl (fun h2 => ?_) (fun h2 => ?_)
    · skip
      refine xZ.adv (me := xm243) hP_243 4 (pc' := 30) (lv' := [(3, .ref x1), (0, .ref v0), (1, .int v1), (2, .int v2)]) (st' := [.int ((1 : Int32) - v1), .ref v0]) rfl ?_
      refine xZ.callv (κ := oR) (av := [.int ((1 : Int32) - v1)]) (rest := []) (st' := fun x3 => [.ref x3]) (k0 := v0) (me := xm243) hP_243 rfl (Or.inl rfl) ⟨rfl, by decide⟩ rfl rfl (Nat.le_of_ble_eq_true rfl) (by decide) hP_238 (Nat.le_of_ble_eq_true rfl) (fun _ => rfl) (k_f_Calendarhall_deviceNumbered O f (d + 3) v0 ((1 : Int32) - v1) M1) (fun x3 M2 => ?_)
      refine xZ.adv (me := xm243) hP_243 2 (pc' := 36) (lv' := [(4, .ref x3), (3, .ref x1), (0, .ref v0), (1, .int v1), (2, .int v2)]) (st' := [.ref v0]) rfl ?_
      refine xZ.callv (κ := oU) (av := []) (rest := []) (st' := fun _ => []) (k0 := v0) (me := xm243) hP_243 rfl (Or.inl rfl) ⟨rfl, by decide⟩ rfl rfl (Nat.le_of_ble_eq_true rfl) (by decide) hP_23 (Nat.le_of_ble_eq_true rfl) (fun _ => rfl) (k_f_Calendarhall_saveForUndo O f (d + 0) v0 M2) (fun _ M3 => ?_)
      refine xZ.adv (me := xm243) hP_243 4 (pc' := 44) (lv' := [(4, .ref x3), (3, .ref x1), (0, .ref v0), (1, .int v1), (2, .int v2)]) (st' := [.int v2, .int v1, .ref x1, .ref x3]) rfl ?_
      refine xZ.callv (κ := oU) (av := [.ref x1, .int v1, .int v2]) (rest := []) (st' := fun _ => []) (k0 := x3) (me := xm243) hP_243 rfl (Or.inl rfl) ⟨rfl, by decide⟩ rfl rfl (Nat.le_of_ble_eq_true rfl) (by decide) hP_244 (Nat.le_of_ble_eq_true rfl) (fun _ => rfl) (k_f_Device_receive O f (d + 3) x3 x1 v1 v2 M3) (fun _ M4 => ?_)
      refine xZ.adv (me := xm243) hP_243 1 (pc' := 49) (lv' := [(4, .ref x3), (3, .ref x1), (0, .ref v0), (1, .int v1), (2, .int v2)]) (st' := [.ref x3]) rfl ?_
      refine xZ.k_gI (me := xm243) hP_243 rfl (fun x6 => ?_)
      exact xZ.reti (me := xm243) hP_243 rfl rfl
    · skip
      exact xZ.no
def f_Law_gcd (O : Nat → Option va_E) (f : Nat) : Nat → Int32 → Int32 → xM → Option (Int32 × xM)
  | 0, _, _, _ => none
  | n + 1, v0, v1, M =>
    if v1 = 0 then (
      some (v0, M)
    ) else
    if v1 = 0 then none else xlet (v0 - v0 / v1 * v1) fun x1 =>
    xcl (f_Law_gcd O f n v1 x1 M) fun x2 M1 =>
    some (x2, M1)
set_option maxRecDepth 20000 in
theorem k_f_Law_gcd (O : Nat → Option va_E) (f : Nat) : ∀ (n d : Nat) (v0 : Int32) (v1 : Int32) (M : xM), xZ oI O (d + n + 1) 245 0 [(0, .int v0), (1, .int v1)] [] M (f_Law_gcd O f n v0 v1 M) := by
  intro n
  induction n with
  | zero =>
    intro d v0 v1 M
    exact xZ.no
  | succ n ih =>
    intro d v0 v1 M
    have hKS : ∀ (v0 : Int32) (v1 : Int32) M, xZ oI O (d + n + 1) 245 0 [(0, .int v0), (1, .int v1)] [] M (f_Law_gcd O f n v0 v1 M) := fun v0 v1 M => ih d v0 v1 M
    unfold f_Law_gcd
    refine xZ.adv (me := xm245) hP_245 1 (pc' := 1) (lv' := [(0, .int v0), (1, .int v1)]) (st' := [.int v1]) rfl ?_
    refine xZ.if_ne (me := xm245) hP_245 rfl (fun h1 => ?_) (fun h1 => ?_)
    · skip
      refine xZ.adv (me := xm245) hP_245 2 (pc' := 15) (lv' := [(0, .int v0), (1, .int v1)]) (st' := [.int v0]) rfl ?_
      exact xZ.reti (me := xm245) hP_245 rfl rfl
    · skip
      refine xZ.adv (me := xm245) hP_245 3 (pc' := 11) (lv' := [(0, .int v0), (1, .int v1)]) (st' := [.int v1, .int v0, .int v1]) rfl ?_
      refine xZ.rem (me := xm245) hP_245 rfl (fun x1 => ?_)
      refine xZ.calls (κ := oI) (av := [.int v1, .int x1]) (rest := []) (st' := fun x2 => [.int x2]) (me := xm245) hP_245 rfl rfl rfl (Nat.le_of_ble_eq_true rfl) (by decide) hP_245 (Nat.le_of_ble_eq_true rfl) (fun _ => rfl) (hKS v1 x1 M) (fun x2 M1 => ?_)
      exact xZ.reti (me := xm245) hP_245 rfl rfl
def f_Calendarhall_areAlike_14 (O : Nat → Option va_E) (f : Nat) : Nat → Nat → Nat → Int32 → xM → Option (Int32 × xM)
  | 0, _, _, _, _ => none
  | n + 1, v1, v2, v3, M =>
    if (48 : Int32) ≤ v3 then (
      some ((1 : Int32), M)
    ) else
    (isO O M v1 3).bind fun _ =>
    xcl (f_Device_valueAt O f v1 v3 M) fun x1 M1 =>
    (isO O M1 v2 3).bind fun _ =>
    xcl (f_Device_valueAt O f v2 v3 M1) fun x2 M2 =>
    if x1 = x2 then (
      f_Calendarhall_areAlike_14 O f n v1 v2 (v3 + (1 : Int32)) M2
    ) else
    some ((0 : Int32), M2)
set_option maxRecDepth 20000 in
theorem k_f_Calendarhall_areAlike_14 (O : Nat → Option va_E) (f d : Nat) : ∀ (n : Nat) (v1 : Nat) (v2 : Nat) (v3 : Int32) (M : xM), xZ oI O (d + 2) 246 14 [(1, .ref v1), (2, .ref v2), (3, .int v3)] [] M (f_Calendarhall_areAlike_14 O f n v1 v2 v3 M) := by
  intro n
  induction n with
  | zero =>
    intro v1 v2 v3 M
    exact xZ.no
  | succ n ih =>
    intro v1 v2 v3 M
    unfold f_Calendarhall_areAlike_14
    refine xZ.adv (me := xm246) hP_246 2 (pc' := 17) (lv' := [(1, .ref v1), (2, .ref v2), (3, .int v3)]) (st' := [.int (48 : Int32), .int v3]) rfl ?_
    refine xZ.ic_ge (me := xm246) hP_246 rfl (fun h1 => ?_) (fun h1 => ?_)
    · skip
      refine xZ.adv (me := xm246) hP_246 1 (pc' := 42) (lv' := [(1, .ref v1), (2, .ref v2), (3, .int v3)]) (st' := [.int (1 : Int32)]) rfl ?_
      exact xZ.rete (me := xm246) hP_246 rfl rfl rfl
    · skip
      refine xZ.adv (me := xm246) hP_246 2 (pc' := 22) (lv' := [(1, .ref v1), (2, .ref v2), (3, .int v3)]) (st' := [.int v3, .ref v1]) rfl ?_
      refine xZ.callv (κ := oI) (av := [.int v3]) (rest := []) (st' := fun x1 => [.int x1]) (k0 := v1) (me := xm246) hP_246 rfl (Or.inl rfl) ⟨rfl, by decide⟩ rfl rfl (Nat.le_of_ble_eq_true rfl) (by decide) hP_242 (Nat.le_of_ble_eq_true rfl) (fun _ => rfl) (k_f_Device_valueAt O f (d + 1) v1 v3 M) (fun x1 M1 => ?_)
      refine xZ.adv (me := xm246) hP_246 2 (pc' := 27) (lv' := [(1, .ref v1), (2, .ref v2), (3, .int v3)]) (st' := [.int v3, .ref v2, .int x1]) rfl ?_
      refine xZ.callv (κ := oI) (av := [.int v3]) (rest := [.int x1]) (st' := fun x2 => [.int x2, .int x1]) (k0 := v2) (me := xm246) hP_246 rfl (Or.inl rfl) ⟨rfl, by decide⟩ rfl rfl (Nat.le_of_ble_eq_true rfl) (by decide) hP_242 (Nat.le_of_ble_eq_true rfl) (fun _ => rfl) (k_f_Device_valueAt O f (d + 1) v2 v3 M1) (fun x2 M2 => ?_)
      refine xZ.ic_eq (me := xm246) hP_246 rfl (fun h2 => ?_) (fun h2 => ?_)
      · skip
        refine xZ.adv (me := xm246) hP_246 2 (pc' := 14) (lv' := [(3, .int (v3 + (1 : Int32))), (1, .ref v1), (2, .ref v2)]) (st' := []) rfl ?_
        exact xZ.sub (xsc (.tail _ (.head _)) (xsc (.tail _ (.tail _ (.head _))) (xsc (.head _) xsn))) (show ([3, 1, 2] : List Nat).Nodup from by decide) (ih v1 v2 (v3 + (1 : Int32)) M2)
      · skip
        refine xZ.adv (me := xm246) hP_246 1 (pc' := 34) (lv' := [(1, .ref v1), (2, .ref v2), (3, .int v3)]) (st' := [.int (0 : Int32)]) rfl ?_
        exact xZ.rete (me := xm246) hP_246 rfl rfl rfl
def f_Calendarhall_areAlike (O : Nat → Option va_E) (f : Nat) (v0 : Nat) (M : xM) : Option (Int32 × xM) :=
  (isO O M v0 12).bind fun _ =>
  xcl (f_Calendarhall_deviceNumbered O f v0 (0 : Int32) M) fun x1 M1 =>
  (isO O M1 v0 12).bind fun _ =>
  xcl (f_Calendarhall_deviceNumbered O f v0 (1 : Int32) M1) fun x2 M2 =>
  f_Calendarhall_areAlike_14 O f f x1 x2 (0 : Int32) M2
set_option maxRecDepth 20000 in
theorem k_f_Calendarhall_areAlike (O : Nat → Option va_E) (f d : Nat) (v0 : Nat) (M : xM) : xZ oI O (d + 2) 246 0 [(0, .ref v0)] [] M (f_Calendarhall_areAlike O f v0 M) := by
  unfold f_Calendarhall_areAlike
  refine xZ.adv (me := xm246) hP_246 2 (pc' := 2) (lv' := [(0, .ref v0)]) (st' := [.int (0 : Int32), .ref v0]) rfl ?_
  refine xZ.callv (κ := oR) (av := [.int (0 : Int32)]) (rest := []) (st' := fun x1 => [.ref x1]) (k0 := v0) (me := xm246) hP_246 rfl (Or.inl rfl) ⟨rfl, by decide⟩ rfl rfl (Nat.le_of_ble_eq_true rfl) (by decide) hP_238 (Nat.le_of_ble_eq_true rfl) (fun _ => rfl) (k_f_Calendarhall_deviceNumbered O f (d + 0) v0 (0 : Int32) M) (fun x1 M1 => ?_)
  refine xZ.adv (me := xm246) hP_246 3 (pc' := 8) (lv' := [(1, .ref x1), (0, .ref v0)]) (st' := [.int (1 : Int32), .ref v0]) rfl ?_
  refine xZ.callv (κ := oR) (av := [.int (1 : Int32)]) (rest := []) (st' := fun x2 => [.ref x2]) (k0 := v0) (me := xm246) hP_246 rfl (Or.inl rfl) ⟨rfl, by decide⟩ rfl rfl (Nat.le_of_ble_eq_true rfl) (by decide) hP_238 (Nat.le_of_ble_eq_true rfl) (fun _ => rfl) (k_f_Calendarhall_deviceNumbered O f (d + 0) v0 (1 : Int32) M1) (fun x2 M2 => ?_)
  refine xZ.adv (me := xm246) hP_246 3 (pc' := 14) (lv' := [(3, .int (0 : Int32)), (2, .ref x2), (1, .ref x1), (0, .ref v0)]) (st' := []) rfl ?_
  exact xZ.sub (xsc (.tail _ (.tail _ (.head _))) (xsc (.tail _ (.head _)) (xsc (.head _) xsn))) (show ([3, 2, 1, 0] : List Nat).Nodup from by decide) (k_f_Calendarhall_areAlike_14 O f d f x1 x2 (0 : Int32) M2)
def f_Law_areAlike_381 (O : Nat → Option va_E) (f : Nat) (K329 : Nat → Nat → Nat → Int32 → xM → Option (Int32 × xM)) (v0 : Nat) (v3 : Nat) (v4 : Nat) (v6 : Int32) (s0 : Int32) (M : xM) : Option (Int32 × xM) :=
  (isO O M v0 12).bind fun _ =>
  xcl (f_Calendarhall_shown O f v0 (0 : Int32) (v6 / (4 : Int32)) (v6 - v6 / (4 : Int32) * (4 : Int32)) M) fun x1 M1 =>
  if x1 = s0 then (
    (isO O M1 v0 12).bind fun _ =>
    xcl (f_Calendarhall_shown O f v0 (1 : Int32) (v6 / (4 : Int32)) (v6 - v6 / (4 : Int32) * (4 : Int32)) M1) fun x2 M2 =>
    if x2 = s0 then (
      K329 v0 v3 v4 (v6 + (1 : Int32)) M2
    ) else
    some ((0 : Int32), M2)
  ) else
  some ((0 : Int32), M1)
set_option maxRecDepth 20000 in
theorem k_f_Law_areAlike_381 (O : Nat → Option va_E) (f d : Nat) (K329 : Nat → Nat → Nat → Int32 → xM → Option (Int32 × xM)) (hK329 : ∀ (v0 : Nat) (v3 : Nat) (v4 : Nat) (v6 : Int32) M, xZ oI O (d + 66) 236 329 [(0, .ref v0), (3, .ref v3), (4, .ref v4), (6, .int v6)] [] M (K329 v0 v3 v4 v6 M)) (v0 : Nat) (v3 : Nat) (v4 : Nat) (v6 : Int32) (s0 : Int32) (M : xM) : xZ oI O (d + 66) 236 381 [(0, .ref v0), (3, .ref v3), (4, .ref v4), (6, .int v6)] [.int s0] M (f_Law_areAlike_381 O f K329 v0 v3 v4 v6 s0 M) := by
  unfold f_Law_areAlike_381
  refine xZ.adv (me := xm236) hP_236 9 (pc' := 393) (lv' := [(8, .int s0), (0, .ref v0), (3, .ref v3), (4, .ref v4), (6, .int v6)]) (st' := [.int (v6 - v6 / (4 : Int32) * (4 : Int32)), .int (v6 / (4 : Int32)), .int (0 : Int32), .ref v0]) rfl ?_
  refine xZ.callv (κ := oI) (av := [.int (0 : Int32), .int (v6 / (4 : Int32)), .int (v6 - v6 / (4 : Int32) * (4 : Int32))]) (rest := []) (st' := fun x1 => [.int x1]) (k0 := v0) (me := xm236) hP_236 rfl (Or.inl rfl) ⟨rfl, by decide⟩ rfl rfl (Nat.le_of_ble_eq_true rfl) (by decide) hP_241 (Nat.le_of_ble_eq_true rfl) (fun _ => rfl) (k_f_Calendarhall_shown O f (d + 63) v0 (0 : Int32) (v6 / (4 : Int32)) (v6 - v6 / (4 : Int32) * (4 : Int32)) M) (fun x1 M1 => ?_)
  refine xZ.adv (me := xm236) hP_236 1 (pc' := 398) (lv' := [(8, .int s0), (0, .ref v0), (3, .ref v3), (4, .ref v4), (6, .int v6)]) (st' := [.int s0, .int x1]) rfl ?_
  refine xZ.ic_ne (me := xm236) hP_236 rfl (fun h1 => ?_) (fun h1 => ?_)
  · skip
    refine xZ.adv (me := xm236) hP_236 8 (pc' := 411) (lv' := [(8, .int s0), (0, .ref v0), (3, .ref v3), (4, .ref v4), (6, .int v6)]) (st' := [.int (v6 - v6 / (4 : Int32) * (4 : Int32)), .int (v6 / (4 : Int32)), .int (1 : Int32), .ref v0]) rfl ?_
    refine xZ.callv (κ := oI) (av := [.int (1 : Int32), .int (v6 / (4 : Int32)), .int (v6 - v6 / (4 : Int32) * (4 : Int32))]) (rest := []) (st' := fun x2 => [.int x2]) (k0 := v0) (me := xm236) hP_236 rfl (Or.inl rfl) ⟨rfl, by decide⟩ rfl rfl (Nat.le_of_ble_eq_true rfl) (by decide) hP_241 (Nat.le_of_ble_eq_true rfl) (fun _ => rfl) (k_f_Calendarhall_shown O f (d + 63) v0 (1 : Int32) (v6 / (4 : Int32)) (v6 - v6 / (4 : Int32) * (4 : Int32)) M1) (fun x2 M2 => ?_)
    refine xZ.adv (me := xm236) hP_236 1 (pc' := 416) (lv' := [(8, .int s0), (0, .ref v0), (3, .ref v3), (4, .ref v4), (6, .int v6)]) (st' := [.int s0, .int x2]) rfl ?_
    refine xZ.ic_eq (me := xm236) hP_236 rfl (fun h2 => ?_) (fun h2 => ?_)
    · skip
      refine xZ.adv (me := xm236) hP_236 2 (pc' := 329) (lv' := [(6, .int (v6 + (1 : Int32))), (8, .int s0), (0, .ref v0), (3, .ref v3), (4, .ref v4)]) (st' := []) rfl ?_
      exact xZ.sub (xsc (.tail _ (.tail _ (.head _))) (xsc (.tail _ (.tail _ (.tail _ (.head _)))) (xsc (.tail _ (.tail _ (.tail _ (.tail _ (.head _))))) (xsc (.head _) xsn)))) (show ([6, 8, 0, 3, 4] : List Nat).Nodup from by decide) (hK329 v0 v3 v4 (v6 + (1 : Int32)) M2)
    · skip
      refine xZ.adv (me := xm236) hP_236 1 (pc' := 420) (lv' := [(8, .int s0), (0, .ref v0), (3, .ref v3), (4, .ref v4), (6, .int v6)]) (st' := [.int (0 : Int32)]) rfl ?_
      exact xZ.rete (me := xm236) hP_236 rfl rfl rfl
  · skip
    refine xZ.adv (me := xm236) hP_236 1 (pc' := 420) (lv' := [(8, .int s0), (0, .ref v0), (3, .ref v3), (4, .ref v4), (6, .int v6)]) (st' := [.int (0 : Int32)]) rfl ?_
    exact xZ.rete (me := xm236) hP_236 rfl rfl rfl
def f_Law_areAlike_356 (O : Nat → Option va_E) (f : Nat) (K329 : Nat → Nat → Nat → Int32 → xM → Option (Int32 × xM)) (v0 : Nat) (v3 : Nat) (v4 : Nat) (v6 : Int32) (s0 : Int32) (M : xM) : Option (Int32 × xM) :=
  (aR O M v3 s0).bind fun x1 =>
  (aI O M x1 v6).bind fun x2 =>
  if x2 = (-1 : Int32) then (
    f_Law_areAlike_381 O f K329 v0 v3 v4 v6 (-1 : Int32) M
  ) else
  (aR O M v4 s0).bind fun x3 =>
  (aI O M x3 v6).bind fun x4 =>
  f_Law_areAlike_381 O f K329 v0 v3 v4 v6 x4 M
set_option maxRecDepth 20000 in
theorem k_f_Law_areAlike_356 (O : Nat → Option va_E) (f d : Nat) (K329 : Nat → Nat → Nat → Int32 → xM → Option (Int32 × xM)) (hK329 : ∀ (v0 : Nat) (v3 : Nat) (v4 : Nat) (v6 : Int32) M, xZ oI O (d + 66) 236 329 [(0, .ref v0), (3, .ref v3), (4, .ref v4), (6, .int v6)] [] M (K329 v0 v3 v4 v6 M)) (v0 : Nat) (v3 : Nat) (v4 : Nat) (v6 : Int32) (s0 : Int32) (M : xM) : xZ oI O (d + 66) 236 356 [(0, .ref v0), (3, .ref v3), (4, .ref v4), (6, .int v6)] [.int s0] M (f_Law_areAlike_356 O f K329 v0 v3 v4 v6 s0 M) := by
  unfold f_Law_areAlike_356
  refine xZ.adv (me := xm236) hP_236 3 (pc' := 361) (lv' := [(7, .int s0), (0, .ref v0), (3, .ref v3), (4, .ref v4), (6, .int v6)]) (st' := [.int s0, .ref v3]) rfl ?_
  refine xZ.k_aR (me := xm236) hP_236 rfl (fun x1 => ?_)
  refine xZ.adv (me := xm236) hP_236 1 (pc' := 364) (lv' := [(7, .int s0), (0, .ref v0), (3, .ref v3), (4, .ref v4), (6, .int v6)]) (st' := [.int v6, .ref x1]) rfl ?_
  refine xZ.k_aI (me := xm236) hP_236 rfl (fun x2 => ?_)
  refine xZ.adv (me := xm236) hP_236 1 (pc' := 366) (lv' := [(7, .int s0), (0, .ref v0), (3, .ref v3), (4, .ref v4), (6, .int v6)]) (st' := [.int (-1 : Int32), .int x2]) rfl ?_
  refine xZ.ic_ne (me := xm236) hP_236 rfl (fun h1 => ?_) (fun h1 => ?_)
  · skip
    refine xZ.adv (me := xm236) hP_236 2 (pc' := 381) (lv' := [(7, .int s0), (0, .ref v0), (3, .ref v3), (4, .ref v4), (6, .int v6)]) (st' := [.int (-1 : Int32)]) rfl ?_
    exact xZ.sub (xsc (.tail _ (.head _)) (xsc (.tail _ (.tail _ (.head _))) (xsc (.tail _ (.tail _ (.tail _ (.head _)))) (xsc (.tail _ (.tail _ (.tail _ (.tail _ (.head _))))) xsn)))) (show ([7, 0, 3, 4, 6] : List Nat).Nodup from by decide) (k_f_Law_areAlike_381 O f d K329 hK329 v0 v3 v4 v6 (-1 : Int32) M)
  · skip
    refine xZ.adv (me := xm236) hP_236 2 (pc' := 377) (lv' := [(7, .int s0), (0, .ref v0), (3, .ref v3), (4, .ref v4), (6, .int v6)]) (st' := [.int s0, .ref v4]) rfl ?_
    refine xZ.k_aR (me := xm236) hP_236 rfl (fun x3 => ?_)
    refine xZ.adv (me := xm236) hP_236 1 (pc' := 380) (lv' := [(7, .int s0), (0, .ref v0), (3, .ref v3), (4, .ref v4), (6, .int v6)]) (st' := [.int v6, .ref x3]) rfl ?_
    refine xZ.k_aI (me := xm236) hP_236 rfl (fun x4 => ?_)
    exact xZ.sub (xsc (.tail _ (.head _)) (xsc (.tail _ (.tail _ (.head _))) (xsc (.tail _ (.tail _ (.tail _ (.head _)))) (xsc (.tail _ (.tail _ (.tail _ (.tail _ (.head _))))) xsn)))) (show ([7, 0, 3, 4, 6] : List Nat).Nodup from by decide) (k_f_Law_areAlike_381 O f d K329 hK329 v0 v3 v4 v6 x4 M)
def f_Law_areAlike_329 (O : Nat → Option va_E) (f : Nat) : Nat → Nat → Nat → Nat → Int32 → xM → Option (Int32 × xM)
  | 0, _, _, _, _, _ => none
  | n + 1, v0, v3, v4, v6, M =>
    if (48 : Int32) ≤ v6 then (
      (isO O M v0 12).bind fun _ =>
      xcl (f_Calendarhall_areAlike O f v0 M) fun x1 M1 =>
      if xfit .boolean (.int x1) = true then some (x1, M1) else none
    ) else
    (aR O M v3 (1 : Int32)).bind fun x2 =>
    (aI O M x2 v6).bind fun x3 =>
    (aR O M v3 (0 : Int32)).bind fun x4 =>
    (aI O M x4 v6).bind fun x5 =>
    if x3 < x5 then (
      f_Law_areAlike_356 O f (f_Law_areAlike_329 O f n) v0 v3 v4 v6 (0 : Int32) M
    ) else
    f_Law_areAlike_356 O f (f_Law_areAlike_329 O f n) v0 v3 v4 v6 (1 : Int32) M
set_option maxRecDepth 20000 in
theorem k_f_Law_areAlike_329 (O : Nat → Option va_E) (f d : Nat) : ∀ (n : Nat) (v0 : Nat) (v3 : Nat) (v4 : Nat) (v6 : Int32) (M : xM), xZ oI O (d + 66) 236 329 [(0, .ref v0), (3, .ref v3), (4, .ref v4), (6, .int v6)] [] M (f_Law_areAlike_329 O f n v0 v3 v4 v6 M) := by
  intro n
  induction n with
  | zero =>
    intro v0 v3 v4 v6 M
    exact xZ.no
  | succ n ih =>
    intro v0 v3 v4 v6 M
    unfold f_Law_areAlike_329
    refine xZ.adv (me := xm236) hP_236 2 (pc' := 333) (lv' := [(0, .ref v0), (3, .ref v3), (4, .ref v4), (6, .int v6)]) (st' := [.int (48 : Int32), .int v6]) rfl ?_
    refine xZ.ic_ge (me := xm236) hP_236 rfl (fun h1 => ?_) (fun h1 => ?_)
    · skip
      refine xZ.adv (me := xm236) hP_236 1 (pc' := 428) (lv' := [(0, .ref v0), (3, .ref v3), (4, .ref v4), (6, .int v6)]) (st' := [.ref v0]) rfl ?_
      refine xZ.callv (κ := oI) (av := []) (rest := []) (st' := fun x1 => [.int x1]) (k0 := v0) (me := xm236) hP_236 rfl (Or.inl rfl) ⟨rfl, by decide⟩ rfl rfl (Nat.le_of_ble_eq_true rfl) (by decide) hP_246 (Nat.le_of_ble_eq_true rfl) (fun _ => rfl) (k_f_Calendarhall_areAlike O f (d + 63) v0 M) (fun x1 M1 => ?_)
      exact xZ.retf (me := xm236) hP_236 rfl rfl
    · skip
      refine xZ.adv (me := xm236) hP_236 2 (pc' := 338) (lv' := [(0, .ref v0), (3, .ref v3), (4, .ref v4), (6, .int v6)]) (st' := [.int (1 : Int32), .ref v3]) rfl ?_
      refine xZ.k_aR (me := xm236) hP_236 rfl (fun x2 => ?_)
      refine xZ.adv (me := xm236) hP_236 1 (pc' := 341) (lv' := [(0, .ref v0), (3, .ref v3), (4, .ref v4), (6, .int v6)]) (st' := [.int v6, .ref x2]) rfl ?_
      refine xZ.k_aI (me := xm236) hP_236 rfl (fun x3 => ?_)
      refine xZ.adv (me := xm236) hP_236 2 (pc' := 344) (lv' := [(0, .ref v0), (3, .ref v3), (4, .ref v4), (6, .int v6)]) (st' := [.int (0 : Int32), .ref v3, .int x3]) rfl ?_
      refine xZ.k_aR (me := xm236) hP_236 rfl (fun x4 => ?_)
      refine xZ.adv (me := xm236) hP_236 1 (pc' := 347) (lv' := [(0, .ref v0), (3, .ref v3), (4, .ref v4), (6, .int v6)]) (st' := [.int v6, .ref x4, .int x3]) rfl ?_
      refine xZ.k_aI (me := xm236) hP_236 rfl (fun x5 => ?_)
      refine xZ.ic_lt (me := xm236) hP_236 rfl (fun h2 => ?_) (fun h2 => ?_)
      · skip
        refine xZ.adv (me := xm236) hP_236 1 (pc' := 356) (lv' := [(0, .ref v0), (3, .ref v3), (4, .ref v4), (6, .int v6)]) (st' := [.int (0 : Int32)]) rfl ?_
        exact (k_f_Law_areAlike_356 O f d (f_Law_areAlike_329 O f n) ih v0 v3 v4 v6 (0 : Int32) M)
      · skip
        refine xZ.adv (me := xm236) hP_236 2 (pc' := 356) (lv' := [(0, .ref v0), (3, .ref v3), (4, .ref v4), (6, .int v6)]) (st' := [.int (1 : Int32)]) rfl ?_
        exact (k_f_Law_areAlike_356 O f d (f_Law_areAlike_329 O f n) ih v0 v3 v4 v6 (1 : Int32) M)
def f_Law_areAlike_264 (O : Nat → Option va_E) (f : Nat) (K226 : Nat → Nat → Nat → Nat → Nat → Int32 → xM → Option (Int32 × xM)) : Nat → Nat → Nat → Nat → Nat → Nat → Int32 → Int32 → Int32 → xM → Option (Int32 × xM)
  | 0, _, _, _, _, _, _, _, _, _ => none
  | n + 1, v0, v1, v2, v3, v4, v6, v7, v8, M =>
    (aI O M v2 v6).bind fun x1 =>
    if x1 ≤ v8 then (
      (aI O M v2 v6).bind fun x2 =>
      if x2 ≤ 0 then (
        K226 v0 v1 v2 v3 v4 (v6 + (1 : Int32)) M
      ) else
      (aI O M v2 v6).bind fun x3 =>
      (isO O M v1 15).bind fun _ =>
      xcl (f_LDraw_n O f v1 x3 M) fun x4 M1 =>
      (isO O M1 v0 12).bind fun _ =>
      xcl (f_Calendarhall_deliver O f v0 v6 x4 M1) fun x5 M2 =>
      K226 v0 v1 v2 v3 v4 (v6 + (1 : Int32)) M2
    ) else
    (aI O M v2 v6).bind fun x6 =>
    if x6 = 0 then none else xlet (((v8 * v7) + (3 : Int32)) - ((v8 * v7) + (3 : Int32)) / x6 * x6) fun x7 =>
    (isO O M v0 12).bind fun _ =>
    xcl (f_Calendarhall_deliver O f v0 v6 x7 M) fun x8 M3 =>
    f_Law_areAlike_264 O f K226 n v0 v1 v2 v3 v4 v6 v7 (v8 + (1 : Int32)) M3
set_option maxRecDepth 20000 in
theorem k_f_Law_areAlike_264 (O : Nat → Option va_E) (f d : Nat) (K226 : Nat → Nat → Nat → Nat → Nat → Int32 → xM → Option (Int32 × xM)) (hK226 : ∀ (v0 : Nat) (v1 : Nat) (v2 : Nat) (v3 : Nat) (v4 : Nat) (v6 : Int32) M, xZ oI O (d + 66) 236 226 [(0, .ref v0), (1, .ref v1), (2, .ref v2), (3, .ref v3), (4, .ref v4), (6, .int v6)] [] M (K226 v0 v1 v2 v3 v4 v6 M)) : ∀ (n : Nat) (v0 : Nat) (v1 : Nat) (v2 : Nat) (v3 : Nat) (v4 : Nat) (v6 : Int32) (v7 : Int32) (v8 : Int32) (M : xM), xZ oI O (d + 66) 236 264 [(0, .ref v0), (1, .ref v1), (2, .ref v2), (3, .ref v3), (4, .ref v4), (6, .int v6), (7, .int v7), (8, .int v8)] [] M (f_Law_areAlike_264 O f K226 n v0 v1 v2 v3 v4 v6 v7 v8 M) := by
  intro n
  induction n with
  | zero =>
    intro v0 v1 v2 v3 v4 v6 v7 v8 M
    exact xZ.no
  | succ n ih =>
    intro v0 v1 v2 v3 v4 v6 v7 v8 M
    unfold f_Law_areAlike_264
    refine xZ.adv (me := xm236) hP_236 3 (pc' := 269) (lv' := [(0, .ref v0), (1, .ref v1), (2, .ref v2), (3, .ref v3), (4, .ref v4), (6, .int v6), (7, .int v7), (8, .int v8)]) (st' := [.int v6, .ref v2, .int v8]) rfl ?_
    refine xZ.k_aI (me := xm236) hP_236 rfl (fun x1 => ?_)
    refine xZ.ic_ge (me := xm236) hP_236 rfl (fun h1 => ?_) (fun h1 => ?_)
    · skip
      refine xZ.adv (me := xm236) hP_236 2 (pc' := 301) (lv' := [(0, .ref v0), (1, .ref v1), (2, .ref v2), (3, .ref v3), (4, .ref v4), (6, .int v6), (7, .int v7), (8, .int v8)]) (st' := [.int v6, .ref v2]) rfl ?_
      refine xZ.k_aI (me := xm236) hP_236 rfl (fun x2 => ?_)
      refine xZ.if_le (me := xm236) hP_236 rfl (fun h2 => ?_) (fun h2 => ?_)
      · skip
        refine xZ.adv (me := xm236) hP_236 2 (pc' := 226) (lv' := [(6, .int (v6 + (1 : Int32))), (0, .ref v0), (1, .ref v1), (2, .ref v2), (3, .ref v3), (4, .ref v4), (7, .int v7), (8, .int v8)]) (st' := []) rfl ?_
        exact xZ.sub (xsc (.tail _ (.head _)) (xsc (.tail _ (.tail _ (.head _))) (xsc (.tail _ (.tail _ (.tail _ (.head _)))) (xsc (.tail _ (.tail _ (.tail _ (.tail _ (.head _))))) (xsc (.tail _ (.tail _ (.tail _ (.tail _ (.tail _ (.head _)))))) (xsc (.head _) xsn)))))) (show ([6, 0, 1, 2, 3, 4, 7, 8] : List Nat).Nodup from by decide) (hK226 v0 v1 v2 v3 v4 (v6 + (1 : Int32)) M)
      · skip
        refine xZ.adv (me := xm236) hP_236 5 (pc' := 312) (lv' := [(0, .ref v0), (1, .ref v1), (2, .ref v2), (3, .ref v3), (4, .ref v4), (6, .int v6), (7, .int v7), (8, .int v8)]) (st' := [.int v6, .ref v2, .ref v1, .int v6, .ref v0]) rfl ?_
        refine xZ.k_aI (me := xm236) hP_236 rfl (fun x3 => ?_)
        refine xZ.callv (κ := oI) (av := [.int x3]) (rest := [.int v6, .ref v0]) (st' := fun x4 => [.int x4, .int v6, .ref v0]) (k0 := v1) (me := xm236) hP_236 rfl (Or.inl rfl) ⟨rfl, by decide⟩ rfl rfl (Nat.le_of_ble_eq_true rfl) (by decide) hP_12 (Nat.le_of_ble_eq_true rfl) (fun _ => rfl) (k_f_LDraw_n O f (d + 65) v1 x3 M) (fun x4 M1 => ?_)
        refine xZ.callv (κ := oI) (av := [.int v6, .int x4]) (rest := []) (st' := fun x5 => [.int x5]) (k0 := v0) (me := xm236) hP_236 rfl (Or.inl rfl) ⟨rfl, by decide⟩ rfl rfl (Nat.le_of_ble_eq_true rfl) (by decide) hP_243 (Nat.le_of_ble_eq_true rfl) (fun _ => rfl) (k_f_Calendarhall_deliver O f (d + 60) v0 v6 x4 M1) (fun x5 M2 => ?_)
        refine xZ.adv (me := xm236) hP_236 3 (pc' := 226) (lv' := [(6, .int (v6 + (1 : Int32))), (0, .ref v0), (1, .ref v1), (2, .ref v2), (3, .ref v3), (4, .ref v4), (7, .int v7), (8, .int v8)]) (st' := []) rfl ?_
        exact xZ.sub (xsc (.tail _ (.head _)) (xsc (.tail _ (.tail _ (.head _))) (xsc (.tail _ (.tail _ (.tail _ (.head _)))) (xsc (.tail _ (.tail _ (.tail _ (.tail _ (.head _))))) (xsc (.tail _ (.tail _ (.tail _ (.tail _ (.tail _ (.head _)))))) (xsc (.head _) xsn)))))) (show ([6, 0, 1, 2, 3, 4, 7, 8] : List Nat).Nodup from by decide) (hK226 v0 v1 v2 v3 v4 (v6 + (1 : Int32)) M2)
    · skip
      refine xZ.adv (me := xm236) hP_236 9 (pc' := 286) (lv' := [(0, .ref v0), (1, .ref v1), (2, .ref v2), (3, .ref v3), (4, .ref v4), (6, .int v6), (7, .int v7), (8, .int v8)]) (st' := [.int v6, .ref v2, .int ((v8 * v7) + (3 : Int32)), .int v6, .ref v0]) rfl ?_
      refine xZ.k_aI (me := xm236) hP_236 rfl (fun x6 => ?_)
      refine xZ.rem (me := xm236) hP_236 rfl (fun x7 => ?_)
      refine xZ.callv (κ := oI) (av := [.int v6, .int x7]) (rest := []) (st' := fun x8 => [.int x8]) (k0 := v0) (me := xm236) hP_236 rfl (Or.inl rfl) ⟨rfl, by decide⟩ rfl rfl (Nat.le_of_ble_eq_true rfl) (by decide) hP_243 (Nat.le_of_ble_eq_true rfl) (fun _ => rfl) (k_f_Calendarhall_deliver O f (d + 60) v0 v6 x7 M) (fun x8 M3 => ?_)
      refine xZ.adv (me := xm236) hP_236 3 (pc' := 264) (lv' := [(8, .int (v8 + (1 : Int32))), (0, .ref v0), (1, .ref v1), (2, .ref v2), (3, .ref v3), (4, .ref v4), (6, .int v6), (7, .int v7)]) (st' := []) rfl ?_
      exact xZ.sub (xsc (.tail _ (.head _)) (xsc (.tail _ (.tail _ (.head _))) (xsc (.tail _ (.tail _ (.tail _ (.head _)))) (xsc (.tail _ (.tail _ (.tail _ (.tail _ (.head _))))) (xsc (.tail _ (.tail _ (.tail _ (.tail _ (.tail _ (.head _)))))) (xsc (.tail _ (.tail _ (.tail _ (.tail _ (.tail _ (.tail _ (.head _))))))) (xsc (.tail _ (.tail _ (.tail _ (.tail _ (.tail _ (.tail _ (.tail _ (.head _)))))))) (xsc (.head _) xsn)))))))) (show ([8, 0, 1, 2, 3, 4, 6, 7] : List Nat).Nodup from by decide) (ih v0 v1 v2 v3 v4 v6 v7 (v8 + (1 : Int32)) M3)
def f_Law_areAlike_261 (O : Nat → Option va_E) (f : Nat) (K226 : Nat → Nat → Nat → Nat → Nat → Int32 → xM → Option (Int32 × xM)) (v0 : Nat) (v1 : Nat) (v2 : Nat) (v3 : Nat) (v4 : Nat) (v6 : Int32) (v7 : Int32) (M : xM) : Option (Int32 × xM) :=
  f_Law_areAlike_264 O f K226 f v0 v1 v2 v3 v4 v6 v7 (0 : Int32) M
set_option maxRecDepth 20000 in
theorem k_f_Law_areAlike_261 (O : Nat → Option va_E) (f d : Nat) (K226 : Nat → Nat → Nat → Nat → Nat → Int32 → xM → Option (Int32 × xM)) (hK226 : ∀ (v0 : Nat) (v1 : Nat) (v2 : Nat) (v3 : Nat) (v4 : Nat) (v6 : Int32) M, xZ oI O (d + 66) 236 226 [(0, .ref v0), (1, .ref v1), (2, .ref v2), (3, .ref v3), (4, .ref v4), (6, .int v6)] [] M (K226 v0 v1 v2 v3 v4 v6 M)) (v0 : Nat) (v1 : Nat) (v2 : Nat) (v3 : Nat) (v4 : Nat) (v6 : Int32) (v7 : Int32) (M : xM) : xZ oI O (d + 66) 236 261 [(0, .ref v0), (1, .ref v1), (2, .ref v2), (3, .ref v3), (4, .ref v4), (6, .int v6), (7, .int v7)] [] M (f_Law_areAlike_261 O f K226 v0 v1 v2 v3 v4 v6 v7 M) := by
  unfold f_Law_areAlike_261
  refine xZ.adv (me := xm236) hP_236 2 (pc' := 264) (lv' := [(8, .int (0 : Int32)), (0, .ref v0), (1, .ref v1), (2, .ref v2), (3, .ref v3), (4, .ref v4), (6, .int v6), (7, .int v7)]) (st' := []) rfl ?_
  exact xZ.sub (xsc (.tail _ (.head _)) (xsc (.tail _ (.tail _ (.head _))) (xsc (.tail _ (.tail _ (.tail _ (.head _)))) (xsc (.tail _ (.tail _ (.tail _ (.tail _ (.head _))))) (xsc (.tail _ (.tail _ (.tail _ (.tail _ (.tail _ (.head _)))))) (xsc (.tail _ (.tail _ (.tail _ (.tail _ (.tail _ (.tail _ (.head _))))))) (xsc (.tail _ (.tail _ (.tail _ (.tail _ (.tail _ (.tail _ (.tail _ (.head _)))))))) (xsc (.head _) xsn)))))))) (show ([8, 0, 1, 2, 3, 4, 6, 7] : List Nat).Nodup from by decide) (k_f_Law_areAlike_264 O f d K226 hK226 f v0 v1 v2 v3 v4 v6 v7 (0 : Int32) M)
def f_Law_areAlike_235 (O : Nat → Option va_E) (f : Nat) (K226 : Nat → Nat → Nat → Nat → Nat → Int32 → xM → Option (Int32 × xM)) : Nat → Nat → Nat → Nat → Nat → Nat → Int32 → Int32 → xM → Option (Int32 × xM)
  | 0, _, _, _, _, _, _, _, _ => none
  | n + 1, v0, v1, v2, v3, v4, v6, v7, M =>
    (aI O M v2 v6).bind fun x1 =>
    if x1 ≤ 0 then (
      f_Law_areAlike_261 O f K226 v0 v1 v2 v3 v4 v6 v7 M
    ) else
    (aI O M v2 v6).bind fun x2 =>
    xcl (f_Law_gcd O f 64 v7 x2 M) fun x3 M1 =>
    if x3 = (1 : Int32) then (
      f_Law_areAlike_261 O f K226 v0 v1 v2 v3 v4 v6 v7 M1
    ) else
    f_Law_areAlike_235 O f K226 n v0 v1 v2 v3 v4 v6 (v7 + (1 : Int32)) M1
set_option maxRecDepth 20000 in
theorem k_f_Law_areAlike_235 (O : Nat → Option va_E) (f d : Nat) (K226 : Nat → Nat → Nat → Nat → Nat → Int32 → xM → Option (Int32 × xM)) (hK226 : ∀ (v0 : Nat) (v1 : Nat) (v2 : Nat) (v3 : Nat) (v4 : Nat) (v6 : Int32) M, xZ oI O (d + 66) 236 226 [(0, .ref v0), (1, .ref v1), (2, .ref v2), (3, .ref v3), (4, .ref v4), (6, .int v6)] [] M (K226 v0 v1 v2 v3 v4 v6 M)) : ∀ (n : Nat) (v0 : Nat) (v1 : Nat) (v2 : Nat) (v3 : Nat) (v4 : Nat) (v6 : Int32) (v7 : Int32) (M : xM), xZ oI O (d + 66) 236 235 [(0, .ref v0), (1, .ref v1), (2, .ref v2), (3, .ref v3), (4, .ref v4), (6, .int v6), (7, .int v7)] [] M (f_Law_areAlike_235 O f K226 n v0 v1 v2 v3 v4 v6 v7 M) := by
  intro n
  induction n with
  | zero =>
    intro v0 v1 v2 v3 v4 v6 v7 M
    exact xZ.no
  | succ n ih =>
    intro v0 v1 v2 v3 v4 v6 v7 M
    unfold f_Law_areAlike_235
    refine xZ.adv (me := xm236) hP_236 2 (pc' := 238) (lv' := [(0, .ref v0), (1, .ref v1), (2, .ref v2), (3, .ref v3), (4, .ref v4), (6, .int v6), (7, .int v7)]) (st' := [.int v6, .ref v2]) rfl ?_
    refine xZ.k_aI (me := xm236) hP_236 rfl (fun x1 => ?_)
    refine xZ.if_le (me := xm236) hP_236 rfl (fun h1 => ?_) (fun h1 => ?_)
    · skip
      exact (k_f_Law_areAlike_261 O f d K226 hK226 v0 v1 v2 v3 v4 v6 v7 M)
    · skip
      refine xZ.adv (me := xm236) hP_236 3 (pc' := 247) (lv' := [(0, .ref v0), (1, .ref v1), (2, .ref v2), (3, .ref v3), (4, .ref v4), (6, .int v6), (7, .int v7)]) (st' := [.int v6, .ref v2, .int v7]) rfl ?_
      refine xZ.k_aI (me := xm236) hP_236 rfl (fun x2 => ?_)
      refine xZ.calls (κ := oI) (av := [.int v7, .int x2]) (rest := []) (st' := fun x3 => [.int x3]) (me := xm236) hP_236 rfl rfl rfl (Nat.le_of_ble_eq_true rfl) (by decide) hP_245 (Nat.le_of_ble_eq_true rfl) (fun _ => rfl) (xZ.deep (k_f_Law_gcd O f 64 0 v7 x2 M) (by omega)) (fun x3 M1 => ?_)
      refine xZ.adv (me := xm236) hP_236 1 (pc' := 252) (lv' := [(0, .ref v0), (1, .ref v1), (2, .ref v2), (3, .ref v3), (4, .ref v4), (6, .int v6), (7, .int v7)]) (st' := [.int (1 : Int32), .int x3]) rfl ?_
      refine xZ.ic_eq (me := xm236) hP_236 rfl (fun h2 => ?_) (fun h2 => ?_)
      · skip
        exact (k_f_Law_areAlike_261 O f d K226 hK226 v0 v1 v2 v3 v4 v6 v7 M1)
      · skip
        refine xZ.adv (me := xm236) hP_236 2 (pc' := 235) (lv' := [(7, .int (v7 + (1 : Int32))), (0, .ref v0), (1, .ref v1), (2, .ref v2), (3, .ref v3), (4, .ref v4), (6, .int v6)]) (st' := []) rfl ?_
        exact xZ.sub (xsc (.tail _ (.head _)) (xsc (.tail _ (.tail _ (.head _))) (xsc (.tail _ (.tail _ (.tail _ (.head _)))) (xsc (.tail _ (.tail _ (.tail _ (.tail _ (.head _))))) (xsc (.tail _ (.tail _ (.tail _ (.tail _ (.tail _ (.head _)))))) (xsc (.tail _ (.tail _ (.tail _ (.tail _ (.tail _ (.tail _ (.head _))))))) (xsc (.head _) xsn))))))) (show ([7, 0, 1, 2, 3, 4, 6] : List Nat).Nodup from by decide) (ih v0 v1 v2 v3 v4 v6 (v7 + (1 : Int32)) M1)
def f_Law_areAlike_226 (O : Nat → Option va_E) (f : Nat) : Nat → Nat → Nat → Nat → Nat → Nat → Int32 → xM → Option (Int32 × xM)
  | 0, _, _, _, _, _, _, _ => none
  | n + 1, v0, v1, v2, v3, v4, v6, M =>
    if (2 : Int32) ≤ v6 then (
      f_Law_areAlike_329 O f f v0 v3 v4 (0 : Int32) M
    ) else
    f_Law_areAlike_235 O f (f_Law_areAlike_226 O f n) f v0 v1 v2 v3 v4 v6 (1 : Int32) M
set_option maxRecDepth 20000 in
theorem k_f_Law_areAlike_226 (O : Nat → Option va_E) (f d : Nat) : ∀ (n : Nat) (v0 : Nat) (v1 : Nat) (v2 : Nat) (v3 : Nat) (v4 : Nat) (v6 : Int32) (M : xM), xZ oI O (d + 66) 236 226 [(0, .ref v0), (1, .ref v1), (2, .ref v2), (3, .ref v3), (4, .ref v4), (6, .int v6)] [] M (f_Law_areAlike_226 O f n v0 v1 v2 v3 v4 v6 M) := by
  intro n
  induction n with
  | zero =>
    intro v0 v1 v2 v3 v4 v6 M
    exact xZ.no
  | succ n ih =>
    intro v0 v1 v2 v3 v4 v6 M
    unfold f_Law_areAlike_226
    refine xZ.adv (me := xm236) hP_236 2 (pc' := 229) (lv' := [(0, .ref v0), (1, .ref v1), (2, .ref v2), (3, .ref v3), (4, .ref v4), (6, .int v6)]) (st' := [.int (2 : Int32), .int v6]) rfl ?_
    refine xZ.ic_ge (me := xm236) hP_236 rfl (fun h1 => ?_) (fun h1 => ?_)
    · skip
      refine xZ.adv (me := xm236) hP_236 2 (pc' := 329) (lv' := [(6, .int (0 : Int32)), (0, .ref v0), (1, .ref v1), (2, .ref v2), (3, .ref v3), (4, .ref v4)]) (st' := []) rfl ?_
      exact xZ.sub (xsc (.tail _ (.head _)) (xsc (.tail _ (.tail _ (.tail _ (.tail _ (.head _))))) (xsc (.tail _ (.tail _ (.tail _ (.tail _ (.tail _ (.head _)))))) (xsc (.head _) xsn)))) (show ([6, 0, 1, 2, 3, 4] : List Nat).Nodup from by decide) (k_f_Law_areAlike_329 O f d f v0 v3 v4 (0 : Int32) M)
    · skip
      refine xZ.adv (me := xm236) hP_236 2 (pc' := 235) (lv' := [(7, .int (1 : Int32)), (0, .ref v0), (1, .ref v1), (2, .ref v2), (3, .ref v3), (4, .ref v4), (6, .int v6)]) (st' := []) rfl ?_
      exact xZ.sub (xsc (.tail _ (.head _)) (xsc (.tail _ (.tail _ (.head _))) (xsc (.tail _ (.tail _ (.tail _ (.head _)))) (xsc (.tail _ (.tail _ (.tail _ (.tail _ (.head _))))) (xsc (.tail _ (.tail _ (.tail _ (.tail _ (.tail _ (.head _)))))) (xsc (.tail _ (.tail _ (.tail _ (.tail _ (.tail _ (.tail _ (.head _))))))) (xsc (.head _) xsn))))))) (show ([7, 0, 1, 2, 3, 4, 6] : List Nat).Nodup from by decide) (k_f_Law_areAlike_235 O f d (f_Law_areAlike_226 O f n) ih f v0 v1 v2 v3 v4 v6 (1 : Int32) M)
def f_Law_areAlike_93 (O : Nat → Option va_E) (f : Nat) (K64 : Nat → Nat → Nat → Nat → Nat → Int32 → Int32 → xM → Option (Int32 × xM)) (v0 : Nat) (v1 : Nat) (v2 : Nat) (v3 : Nat) (v4 : Nat) (v5 : Int32) (v6 : Int32) (v7 : Int32) (s0 : Nat) (s1 : Int32) (M : xM) : Option (Int32 × xM) :=
  (isO O M s0 15).bind fun _ =>
  xcl (f_LDraw_n O f s0 s1 M) fun x1 M1 =>
  (isO O M1 v1 15).bind fun _ =>
  xcl (f_LDraw_n O f v1 (1000 : Int32) M1) fun x2 M2 =>
  (aI O M2 v2 v7).bind fun x3 =>
  if x3 = (40 : Int32) then (
    K64 v0 v1 v2 v3 v4 v5 (v6 + (1 : Int32)) M2
  ) else
  (aR O M2 v3 v7).bind fun x4 =>
  (isO O M2 v0 12).bind fun _ =>
  xcl (f_Calendarhall_change O f v0 v7 (x1 / (4 : Int32)) (x1 - x1 / (4 : Int32) * (4 : Int32)) x2 M2) fun x5 M3 =>
  (wI M3 x4 x1 x5).bind fun M4 =>
  (aR O M4 v4 v7).bind fun x6 =>
  (wI M4 x6 x1 x2).bind fun M5 =>
  (aI O M5 v2 v7).bind fun x7 =>
  (wI M5 v2 v7 (x7 + (1 : Int32))).bind fun M6 =>
  (isO O M6 v0 12).bind fun _ =>
  xcl (f_Calendarhall_shown O f v0 v7 (x1 / (4 : Int32)) (x1 - x1 / (4 : Int32) * (4 : Int32)) M6) fun x8 M7 =>
  if x8 = x2 then (
    (isO O M7 v1 15).bind fun _ =>
    xcl (f_LDraw_is O f v1 (3 : Int32) M7) fun x9 M8 =>
    if x9 = 0 then (
      K64 v0 v1 v2 v3 v4 v5 (v6 + (1 : Int32)) M8
    ) else
    (aI O M8 v2 ((1 : Int32) - v7)).bind fun x10 =>
    if x10 ≤ 0 then (
      K64 v0 v1 v2 v3 v4 v5 (v6 + (1 : Int32)) M8
    ) else
    (aI O M8 v2 ((1 : Int32) - v7)).bind fun x11 =>
    (isO O M8 v1 15).bind fun _ =>
    xcl (f_LDraw_n O f v1 x11 M8) fun x12 M9 =>
    (isO O M9 v0 12).bind fun _ =>
    xcl (f_Calendarhall_deliver O f v0 ((1 : Int32) - v7) x12 M9) fun x13 M10 =>
    K64 v0 v1 v2 v3 v4 v5 (v6 + (1 : Int32)) M10
  ) else
  some ((0 : Int32), M7)
set_option maxRecDepth 20000 in
theorem k_f_Law_areAlike_93 (O : Nat → Option va_E) (f d : Nat) (K64 : Nat → Nat → Nat → Nat → Nat → Int32 → Int32 → xM → Option (Int32 × xM)) (hK64 : ∀ (v0 : Nat) (v1 : Nat) (v2 : Nat) (v3 : Nat) (v4 : Nat) (v5 : Int32) (v6 : Int32) M, xZ oI O (d + 66) 236 64 [(0, .ref v0), (1, .ref v1), (2, .ref v2), (3, .ref v3), (4, .ref v4), (5, .int v5), (6, .int v6)] [] M (K64 v0 v1 v2 v3 v4 v5 v6 M)) (v0 : Nat) (v1 : Nat) (v2 : Nat) (v3 : Nat) (v4 : Nat) (v5 : Int32) (v6 : Int32) (v7 : Int32) (s0 : Nat) (s1 : Int32) (M : xM) : xZ oI O (d + 66) 236 93 [(0, .ref v0), (1, .ref v1), (2, .ref v2), (3, .ref v3), (4, .ref v4), (5, .int v5), (6, .int v6), (7, .int v7)] [.int s1, .ref s0] M (f_Law_areAlike_93 O f K64 v0 v1 v2 v3 v4 v5 v6 v7 s0 s1 M) := by
  unfold f_Law_areAlike_93
  refine xZ.callv (κ := oI) (av := [.int s1]) (rest := []) (st' := fun x1 => [.int x1]) (k0 := s0) (me := xm236) hP_236 rfl (Or.inl rfl) ⟨rfl, by decide⟩ rfl rfl (Nat.le_of_ble_eq_true rfl) (by decide) hP_12 (Nat.le_of_ble_eq_true rfl) (fun _ => rfl) (k_f_LDraw_n O f (d + 65) s0 s1 M) (fun x1 M1 => ?_)
  refine xZ.adv (me := xm236) hP_236 3 (pc' := 102) (lv' := [(8, .int x1), (0, .ref v0), (1, .ref v1), (2, .ref v2), (3, .ref v3), (4, .ref v4), (5, .int v5), (6, .int v6), (7, .int v7)]) (st' := [.int (1000 : Int32), .ref v1]) rfl ?_
  refine xZ.callv (κ := oI) (av := [.int (1000 : Int32)]) (rest := []) (st' := fun x2 => [.int x2]) (k0 := v1) (me := xm236) hP_236 rfl (Or.inl rfl) ⟨rfl, by decide⟩ rfl rfl (Nat.le_of_ble_eq_true rfl) (by decide) hP_12 (Nat.le_of_ble_eq_true rfl) (fun _ => rfl) (k_f_LDraw_n O f (d + 65) v1 (1000 : Int32) M1) (fun x2 M2 => ?_)
  refine xZ.adv (me := xm236) hP_236 3 (pc' := 110) (lv' := [(9, .int x2), (8, .int x1), (0, .ref v0), (1, .ref v1), (2, .ref v2), (3, .ref v3), (4, .ref v4), (5, .int v5), (6, .int v6), (7, .int v7)]) (st' := [.int v7, .ref v2]) rfl ?_
  refine xZ.k_aI (me := xm236) hP_236 rfl (fun x3 => ?_)
  refine xZ.adv (me := xm236) hP_236 1 (pc' := 113) (lv' := [(9, .int x2), (8, .int x1), (0, .ref v0), (1, .ref v1), (2, .ref v2), (3, .ref v3), (4, .ref v4), (5, .int v5), (6, .int v6), (7, .int v7)]) (st' := [.int (40 : Int32), .int x3]) rfl ?_
  refine xZ.ic_ne (me := xm236) hP_236 rfl (fun h1 => ?_) (fun h1 => ?_)
  · skip
    refine xZ.adv (me := xm236) hP_236 3 (pc' := 64) (lv' := [(6, .int (v6 + (1 : Int32))), (9, .int x2), (8, .int x1), (0, .ref v0), (1, .ref v1), (2, .ref v2), (3, .ref v3), (4, .ref v4), (5, .int v5), (7, .int v7)]) (st' := []) rfl ?_
    exact xZ.sub (xsc (.tail _ (.tail _ (.tail _ (.head _)))) (xsc (.tail _ (.tail _ (.tail _ (.tail _ (.head _))))) (xsc (.tail _ (.tail _ (.tail _ (.tail _ (.tail _ (.head _)))))) (xsc (.tail _ (.tail _ (.tail _ (.tail _ (.tail _ (.tail _ (.head _))))))) (xsc (.tail _ (.tail _ (.tail _ (.tail _ (.tail _ (.tail _ (.tail _ (.head _)))))))) (xsc (.tail _ (.tail _ (.tail _ (.tail _ (.tail _ (.tail _ (.tail _ (.tail _ (.head _))))))))) (xsc (.head _) xsn))))))) (show ([6, 9, 8, 0, 1, 2, 3, 4, 5, 7] : List Nat).Nodup from by decide) (hK64 v0 v1 v2 v3 v4 v5 (v6 + (1 : Int32)) M2)
  · skip
    refine xZ.adv (me := xm236) hP_236 2 (pc' := 122) (lv' := [(9, .int x2), (8, .int x1), (0, .ref v0), (1, .ref v1), (2, .ref v2), (3, .ref v3), (4, .ref v4), (5, .int v5), (6, .int v6), (7, .int v7)]) (st' := [.int v7, .ref v3]) rfl ?_
    refine xZ.k_aR (me := xm236) hP_236 rfl (fun x4 => ?_)
    refine xZ.adv (me := xm236) hP_236 10 (pc' := 138) (lv' := [(9, .int x2), (8, .int x1), (0, .ref v0), (1, .ref v1), (2, .ref v2), (3, .ref v3), (4, .ref v4), (5, .int v5), (6, .int v6), (7, .int v7)]) (st' := [.int x2, .int (x1 - x1 / (4 : Int32) * (4 : Int32)), .int (x1 / (4 : Int32)), .int v7, .ref v0, .int x1, .ref x4]) rfl ?_
    refine xZ.callv (κ := oI) (av := [.int v7, .int (x1 / (4 : Int32)), .int (x1 - x1 / (4 : Int32) * (4 : Int32)), .int x2]) (rest := [.int x1, .ref x4]) (st' := fun x5 => [.int x5, .int x1, .ref x4]) (k0 := v0) (me := xm236) hP_236 rfl (Or.inl rfl) ⟨rfl, by decide⟩ rfl rfl (Nat.le_of_ble_eq_true rfl) (by decide) hP_237 (Nat.le_of_ble_eq_true rfl) (fun _ => rfl) (k_f_Calendarhall_change O f (d + 60) v0 v7 (x1 / (4 : Int32)) (x1 - x1 / (4 : Int32) * (4 : Int32)) x2 M2) (fun x5 M3 => ?_)
    refine xZ.k_wI (me := xm236) hP_236 rfl (fun M4 => ?_)
    refine xZ.adv (me := xm236) hP_236 2 (pc' := 146) (lv' := [(9, .int x2), (8, .int x1), (0, .ref v0), (1, .ref v1), (2, .ref v2), (3, .ref v3), (4, .ref v4), (5, .int v5), (6, .int v6), (7, .int v7)]) (st' := [.int v7, .ref v4]) rfl ?_
    refine xZ.k_aR (me := xm236) hP_236 rfl (fun x6 => ?_)
    refine xZ.adv (me := xm236) hP_236 2 (pc' := 151) (lv' := [(9, .int x2), (8, .int x1), (0, .ref v0), (1, .ref v1), (2, .ref v2), (3, .ref v3), (4, .ref v4), (5, .int v5), (6, .int v6), (7, .int v7)]) (st' := [.int x2, .int x1, .ref x6]) rfl ?_
    refine xZ.k_wI (me := xm236) hP_236 rfl (fun M5 => ?_)
    refine xZ.adv (me := xm236) hP_236 3 (pc' := 156) (lv' := [(9, .int x2), (8, .int x1), (0, .ref v0), (1, .ref v1), (2, .ref v2), (3, .ref v3), (4, .ref v4), (5, .int v5), (6, .int v6), (7, .int v7)]) (st' := [.int v7, .ref v2, .int v7, .ref v2]) rfl ?_
    refine xZ.k_aI (me := xm236) hP_236 rfl (fun x7 => ?_)
    refine xZ.adv (me := xm236) hP_236 2 (pc' := 159) (lv' := [(9, .int x2), (8, .int x1), (0, .ref v0), (1, .ref v1), (2, .ref v2), (3, .ref v3), (4, .ref v4), (5, .int v5), (6, .int v6), (7, .int v7)]) (st' := [.int (x7 + (1 : Int32)), .int v7, .ref v2]) rfl ?_
    refine xZ.k_wI (me := xm236) hP_236 rfl (fun M6 => ?_)
    refine xZ.adv (me := xm236) hP_236 8 (pc' := 171) (lv' := [(9, .int x2), (8, .int x1), (0, .ref v0), (1, .ref v1), (2, .ref v2), (3, .ref v3), (4, .ref v4), (5, .int v5), (6, .int v6), (7, .int v7)]) (st' := [.int (x1 - x1 / (4 : Int32) * (4 : Int32)), .int (x1 / (4 : Int32)), .int v7, .ref v0]) rfl ?_
    refine xZ.callv (κ := oI) (av := [.int v7, .int (x1 / (4 : Int32)), .int (x1 - x1 / (4 : Int32) * (4 : Int32))]) (rest := []) (st' := fun x8 => [.int x8]) (k0 := v0) (me := xm236) hP_236 rfl (Or.inl rfl) ⟨rfl, by decide⟩ rfl rfl (Nat.le_of_ble_eq_true rfl) (by decide) hP_241 (Nat.le_of_ble_eq_true rfl) (fun _ => rfl) (k_f_Calendarhall_shown O f (d + 63) v0 v7 (x1 / (4 : Int32)) (x1 - x1 / (4 : Int32) * (4 : Int32)) M6) (fun x8 M7 => ?_)
    refine xZ.adv (me := xm236) hP_236 1 (pc' := 176) (lv' := [(9, .int x2), (8, .int x1), (0, .ref v0), (1, .ref v1), (2, .ref v2), (3, .ref v3), (4, .ref v4), (5, .int v5), (6, .int v6), (7, .int v7)]) (st' := [.int x2, .int x8]) rfl ?_
    refine xZ.ic_eq (me := xm236) hP_236 rfl (fun h2 => ?_) (fun h2 => ?_)
    · skip
      refine xZ.adv (me := xm236) hP_236 2 (pc' := 183) (lv' := [(9, .int x2), (8, .int x1), (0, .ref v0), (1, .ref v1), (2, .ref v2), (3, .ref v3), (4, .ref v4), (5, .int v5), (6, .int v6), (7, .int v7)]) (st' := [.int (3 : Int32), .ref v1]) rfl ?_
      refine xZ.callv (κ := oI) (av := [.int (3 : Int32)]) (rest := []) (st' := fun x9 => [.int x9]) (k0 := v1) (me := xm236) hP_236 rfl (Or.inl rfl) ⟨rfl, by decide⟩ rfl rfl (Nat.le_of_ble_eq_true rfl) (by decide) hP_18 (Nat.le_of_ble_eq_true rfl) (fun _ => rfl) (k_f_LDraw_is O f (d + 64) v1 (3 : Int32) M7) (fun x9 M8 => ?_)
      refine xZ.if_eq (me := xm236) hP_236 rfl (fun h3 => ?_) (fun h3 => ?_)
      · skip
        refine xZ.adv (me := xm236) hP_236 2 (pc' := 64) (lv' := [(6, .int (v6 + (1 : Int32))), (9, .int x2), (8, .int x1), (0, .ref v0), (1, .ref v1), (2, .ref v2), (3, .ref v3), (4, .ref v4), (5, .int v5), (7, .int v7)]) (st' := []) rfl ?_
        exact xZ.sub (xsc (.tail _ (.tail _ (.tail _ (.head _)))) (xsc (.tail _ (.tail _ (.tail _ (.tail _ (.head _))))) (xsc (.tail _ (.tail _ (.tail _ (.tail _ (.tail _ (.head _)))))) (xsc (.tail _ (.tail _ (.tail _ (.tail _ (.tail _ (.tail _ (.head _))))))) (xsc (.tail _ (.tail _ (.tail _ (.tail _ (.tail _ (.tail _ (.tail _ (.head _)))))))) (xsc (.tail _ (.tail _ (.tail _ (.tail _ (.tail _ (.tail _ (.tail _ (.tail _ (.head _))))))))) (xsc (.head _) xsn))))))) (show ([6, 9, 8, 0, 1, 2, 3, 4, 5, 7] : List Nat).Nodup from by decide) (hK64 v0 v1 v2 v3 v4 v5 (v6 + (1 : Int32)) M8)
      · skip
        refine xZ.adv (me := xm236) hP_236 4 (pc' := 194) (lv' := [(9, .int x2), (8, .int x1), (0, .ref v0), (1, .ref v1), (2, .ref v2), (3, .ref v3), (4, .ref v4), (5, .int v5), (6, .int v6), (7, .int v7)]) (st' := [.int ((1 : Int32) - v7), .ref v2]) rfl ?_
        refine xZ.k_aI (me := xm236) hP_236 rfl (fun x10 => ?_)
        refine xZ.if_le (me := xm236) hP_236 rfl (fun h4 => ?_) (fun h4 => ?_)
        · skip
          refine xZ.adv (me := xm236) hP_236 2 (pc' := 64) (lv' := [(6, .int (v6 + (1 : Int32))), (9, .int x2), (8, .int x1), (0, .ref v0), (1, .ref v1), (2, .ref v2), (3, .ref v3), (4, .ref v4), (5, .int v5), (7, .int v7)]) (st' := []) rfl ?_
          exact xZ.sub (xsc (.tail _ (.tail _ (.tail _ (.head _)))) (xsc (.tail _ (.tail _ (.tail _ (.tail _ (.head _))))) (xsc (.tail _ (.tail _ (.tail _ (.tail _ (.tail _ (.head _)))))) (xsc (.tail _ (.tail _ (.tail _ (.tail _ (.tail _ (.tail _ (.head _))))))) (xsc (.tail _ (.tail _ (.tail _ (.tail _ (.tail _ (.tail _ (.tail _ (.head _)))))))) (xsc (.tail _ (.tail _ (.tail _ (.tail _ (.tail _ (.tail _ (.tail _ (.tail _ (.head _))))))))) (xsc (.head _) xsn))))))) (show ([6, 9, 8, 0, 1, 2, 3, 4, 5, 7] : List Nat).Nodup from by decide) (hK64 v0 v1 v2 v3 v4 v5 (v6 + (1 : Int32)) M8)
        · skip
          refine xZ.adv (me := xm236) hP_236 9 (pc' := 209) (lv' := [(9, .int x2), (8, .int x1), (0, .ref v0), (1, .ref v1), (2, .ref v2), (3, .ref v3), (4, .ref v4), (5, .int v5), (6, .int v6), (7, .int v7)]) (st' := [.int ((1 : Int32) - v7), .ref v2, .ref v1, .int ((1 : Int32) - v7), .ref v0]) rfl ?_
          refine xZ.k_aI (me := xm236) hP_236 rfl (fun x11 => ?_)
          refine xZ.callv (κ := oI) (av := [.int x11]) (rest := [.int ((1 : Int32) - v7), .ref v0]) (st' := fun x12 => [.int x12, .int ((1 : Int32) - v7), .ref v0]) (k0 := v1) (me := xm236) hP_236 rfl (Or.inl rfl) ⟨rfl, by decide⟩ rfl rfl (Nat.le_of_ble_eq_true rfl) (by decide) hP_12 (Nat.le_of_ble_eq_true rfl) (fun _ => rfl) (k_f_LDraw_n O f (d + 65) v1 x11 M8) (fun x12 M9 => ?_)
          refine xZ.callv (κ := oI) (av := [.int ((1 : Int32) - v7), .int x12]) (rest := []) (st' := fun x13 => [.int x13]) (k0 := v0) (me := xm236) hP_236 rfl (Or.inl rfl) ⟨rfl, by decide⟩ rfl rfl (Nat.le_of_ble_eq_true rfl) (by decide) hP_243 (Nat.le_of_ble_eq_true rfl) (fun _ => rfl) (k_f_Calendarhall_deliver O f (d + 60) v0 ((1 : Int32) - v7) x12 M9) (fun x13 M10 => ?_)
          refine xZ.adv (me := xm236) hP_236 3 (pc' := 64) (lv' := [(6, .int (v6 + (1 : Int32))), (9, .int x2), (8, .int x1), (0, .ref v0), (1, .ref v1), (2, .ref v2), (3, .ref v3), (4, .ref v4), (5, .int v5), (7, .int v7)]) (st' := []) rfl ?_
          exact xZ.sub (xsc (.tail _ (.tail _ (.tail _ (.head _)))) (xsc (.tail _ (.tail _ (.tail _ (.tail _ (.head _))))) (xsc (.tail _ (.tail _ (.tail _ (.tail _ (.tail _ (.head _)))))) (xsc (.tail _ (.tail _ (.tail _ (.tail _ (.tail _ (.tail _ (.head _))))))) (xsc (.tail _ (.tail _ (.tail _ (.tail _ (.tail _ (.tail _ (.tail _ (.head _)))))))) (xsc (.tail _ (.tail _ (.tail _ (.tail _ (.tail _ (.tail _ (.tail _ (.tail _ (.head _))))))))) (xsc (.head _) xsn))))))) (show ([6, 9, 8, 0, 1, 2, 3, 4, 5, 7] : List Nat).Nodup from by decide) (hK64 v0 v1 v2 v3 v4 v5 (v6 + (1 : Int32)) M10)
    · skip
      refine xZ.adv (me := xm236) hP_236 1 (pc' := 180) (lv' := [(9, .int x2), (8, .int x1), (0, .ref v0), (1, .ref v1), (2, .ref v2), (3, .ref v3), (4, .ref v4), (5, .int v5), (6, .int v6), (7, .int v7)]) (st' := [.int (0 : Int32)]) rfl ?_
      exact xZ.rete (me := xm236) hP_236 rfl rfl rfl
def f_Law_areAlike_64 (O : Nat → Option va_E) (f : Nat) : Nat → Nat → Nat → Nat → Nat → Nat → Int32 → Int32 → xM → Option (Int32 × xM)
  | 0, _, _, _, _, _, _, _, _ => none
  | n + 1, v0, v1, v2, v3, v4, v5, v6, M =>
    if v5 ≤ v6 then (
      f_Law_areAlike_226 O f f v0 v1 v2 v3 v4 (0 : Int32) M
    ) else
    (isO O M v1 15).bind fun _ =>
    xcl (f_LDraw_n O f v1 (2 : Int32) M) fun x1 M1 =>
    (isO O M1 v1 15).bind fun _ =>
    xcl (f_LDraw_is O f v1 (2 : Int32) M1) fun x2 M2 =>
    if x2 = 0 then (
      f_Law_areAlike_93 O f (f_Law_areAlike_64 O f n) v0 v1 v2 v3 v4 v5 v6 x1 v1 (5 : Int32) M2
    ) else
    f_Law_areAlike_93 O f (f_Law_areAlike_64 O f n) v0 v1 v2 v3 v4 v5 v6 x1 v1 (48 : Int32) M2
set_option maxRecDepth 20000 in
theorem k_f_Law_areAlike_64 (O : Nat → Option va_E) (f d : Nat) : ∀ (n : Nat) (v0 : Nat) (v1 : Nat) (v2 : Nat) (v3 : Nat) (v4 : Nat) (v5 : Int32) (v6 : Int32) (M : xM), xZ oI O (d + 66) 236 64 [(0, .ref v0), (1, .ref v1), (2, .ref v2), (3, .ref v3), (4, .ref v4), (5, .int v5), (6, .int v6)] [] M (f_Law_areAlike_64 O f n v0 v1 v2 v3 v4 v5 v6 M) := by
  intro n
  induction n with
  | zero =>
    intro v0 v1 v2 v3 v4 v5 v6 M
    exact xZ.no
  | succ n ih =>
    intro v0 v1 v2 v3 v4 v5 v6 M
    unfold f_Law_areAlike_64
    refine xZ.adv (me := xm236) hP_236 2 (pc' := 68) (lv' := [(0, .ref v0), (1, .ref v1), (2, .ref v2), (3, .ref v3), (4, .ref v4), (5, .int v5), (6, .int v6)]) (st' := [.int v5, .int v6]) rfl ?_
    refine xZ.ic_ge (me := xm236) hP_236 rfl (fun h1 => ?_) (fun h1 => ?_)
    · skip
      refine xZ.adv (me := xm236) hP_236 2 (pc' := 226) (lv' := [(6, .int (0 : Int32)), (0, .ref v0), (1, .ref v1), (2, .ref v2), (3, .ref v3), (4, .ref v4), (5, .int v5)]) (st' := []) rfl ?_
      exact xZ.sub (xsc (.tail _ (.head _)) (xsc (.tail _ (.tail _ (.head _))) (xsc (.tail _ (.tail _ (.tail _ (.head _)))) (xsc (.tail _ (.tail _ (.tail _ (.tail _ (.head _))))) (xsc (.tail _ (.tail _ (.tail _ (.tail _ (.tail _ (.head _)))))) (xsc (.head _) xsn)))))) (show ([6, 0, 1, 2, 3, 4, 5] : List Nat).Nodup from by decide) (k_f_Law_areAlike_226 O f d f v0 v1 v2 v3 v4 (0 : Int32) M)
    · skip
      refine xZ.adv (me := xm236) hP_236 2 (pc' := 73) (lv' := [(0, .ref v0), (1, .ref v1), (2, .ref v2), (3, .ref v3), (4, .ref v4), (5, .int v5), (6, .int v6)]) (st' := [.int (2 : Int32), .ref v1]) rfl ?_
      refine xZ.callv (κ := oI) (av := [.int (2 : Int32)]) (rest := []) (st' := fun x1 => [.int x1]) (k0 := v1) (me := xm236) hP_236 rfl (Or.inl rfl) ⟨rfl, by decide⟩ rfl rfl (Nat.le_of_ble_eq_true rfl) (by decide) hP_12 (Nat.le_of_ble_eq_true rfl) (fun _ => rfl) (k_f_LDraw_n O f (d + 65) v1 (2 : Int32) M) (fun x1 M1 => ?_)
      refine xZ.adv (me := xm236) hP_236 4 (pc' := 81) (lv' := [(7, .int x1), (0, .ref v0), (1, .ref v1), (2, .ref v2), (3, .ref v3), (4, .ref v4), (5, .int v5), (6, .int v6)]) (st' := [.int (2 : Int32), .ref v1, .ref v1]) rfl ?_
      refine xZ.callv (κ := oI) (av := [.int (2 : Int32)]) (rest := [.ref v1]) (st' := fun x2 => [.int x2, .ref v1]) (k0 := v1) (me := xm236) hP_236 rfl (Or.inl rfl) ⟨rfl, by decide⟩ rfl rfl (Nat.le_of_ble_eq_true rfl) (by decide) hP_18 (Nat.le_of_ble_eq_true rfl) (fun _ => rfl) (k_f_LDraw_is O f (d + 64) v1 (2 : Int32) M1) (fun x2 M2 => ?_)
      refine xZ.if_eq (me := xm236) hP_236 rfl (fun h2 => ?_) (fun h2 => ?_)
      · skip
        refine xZ.adv (me := xm236) hP_236 1 (pc' := 93) (lv' := [(7, .int x1), (0, .ref v0), (1, .ref v1), (2, .ref v2), (3, .ref v3), (4, .ref v4), (5, .int v5), (6, .int v6)]) (st' := [.int (5 : Int32), .ref v1]) rfl ?_
        exact xZ.sub (xsc (.tail _ (.head _)) (xsc (.tail _ (.tail _ (.head _))) (xsc (.tail _ (.tail _ (.tail _ (.head _)))) (xsc (.tail _ (.tail _ (.tail _ (.tail _ (.head _))))) (xsc (.tail _ (.tail _ (.tail _ (.tail _ (.tail _ (.head _)))))) (xsc (.tail _ (.tail _ (.tail _ (.tail _ (.tail _ (.tail _ (.head _))))))) (xsc (.tail _ (.tail _ (.tail _ (.tail _ (.tail _ (.tail _ (.tail _ (.head _)))))))) (xsc (.head _) xsn)))))))) (show ([7, 0, 1, 2, 3, 4, 5, 6] : List Nat).Nodup from by decide) (k_f_Law_areAlike_93 O f d (f_Law_areAlike_64 O f n) ih v0 v1 v2 v3 v4 v5 v6 x1 v1 (5 : Int32) M2)
      · skip
        refine xZ.adv (me := xm236) hP_236 2 (pc' := 93) (lv' := [(7, .int x1), (0, .ref v0), (1, .ref v1), (2, .ref v2), (3, .ref v3), (4, .ref v4), (5, .int v5), (6, .int v6)]) (st' := [.int (48 : Int32), .ref v1]) rfl ?_
        exact xZ.sub (xsc (.tail _ (.head _)) (xsc (.tail _ (.tail _ (.head _))) (xsc (.tail _ (.tail _ (.tail _ (.head _)))) (xsc (.tail _ (.tail _ (.tail _ (.tail _ (.head _))))) (xsc (.tail _ (.tail _ (.tail _ (.tail _ (.tail _ (.head _)))))) (xsc (.tail _ (.tail _ (.tail _ (.tail _ (.tail _ (.tail _ (.head _))))))) (xsc (.tail _ (.tail _ (.tail _ (.tail _ (.tail _ (.tail _ (.tail _ (.head _)))))))) (xsc (.head _) xsn)))))))) (show ([7, 0, 1, 2, 3, 4, 5, 6] : List Nat).Nodup from by decide) (k_f_Law_areAlike_93 O f d (f_Law_areAlike_64 O f n) ih v0 v1 v2 v3 v4 v5 v6 x1 v1 (48 : Int32) M2)
def f_Law_areAlike_24 (O : Nat → Option va_E) (f : Nat) : Nat → Nat → Nat → Nat → Nat → Nat → Int32 → xM → Option (Int32 × xM)
  | 0, _, _, _, _, _, _, _ => none
  | n + 1, v0, v1, v2, v3, v4, v5, M =>
    if (48 : Int32) ≤ v5 then (
      (isO O M v1 15).bind fun _ =>
      xcl (f_LDraw_n O f v1 (40 : Int32) M) fun x1 M1 =>
      f_Law_areAlike_64 O f f v0 v1 v2 v3 v4 ((1 : Int32) + x1) (0 : Int32) M1
    ) else
    (aR O M v3 (0 : Int32)).bind fun x2 =>
    (wI M x2 v5 (-1 : Int32)).bind fun M2 =>
    (aR O M2 v3 (1 : Int32)).bind fun x3 =>
    (wI M2 x3 v5 (-1 : Int32)).bind fun M3 =>
    f_Law_areAlike_24 O f n v0 v1 v2 v3 v4 (v5 + (1 : Int32)) M3
set_option maxRecDepth 20000 in
theorem k_f_Law_areAlike_24 (O : Nat → Option va_E) (f d : Nat) : ∀ (n : Nat) (v0 : Nat) (v1 : Nat) (v2 : Nat) (v3 : Nat) (v4 : Nat) (v5 : Int32) (M : xM), xZ oI O (d + 66) 236 24 [(0, .ref v0), (1, .ref v1), (2, .ref v2), (3, .ref v3), (4, .ref v4), (5, .int v5)] [] M (f_Law_areAlike_24 O f n v0 v1 v2 v3 v4 v5 M) := by
  intro n
  induction n with
  | zero =>
    intro v0 v1 v2 v3 v4 v5 M
    exact xZ.no
  | succ n ih =>
    intro v0 v1 v2 v3 v4 v5 M
    unfold f_Law_areAlike_24
    refine xZ.adv (me := xm236) hP_236 2 (pc' := 28) (lv' := [(0, .ref v0), (1, .ref v1), (2, .ref v2), (3, .ref v3), (4, .ref v4), (5, .int v5)]) (st' := [.int (48 : Int32), .int v5]) rfl ?_
    refine xZ.ic_ge (me := xm236) hP_236 rfl (fun h1 => ?_) (fun h1 => ?_)
    · skip
      refine xZ.adv (me := xm236) hP_236 3 (pc' := 55) (lv' := [(0, .ref v0), (1, .ref v1), (2, .ref v2), (3, .ref v3), (4, .ref v4), (5, .int v5)]) (st' := [.int (40 : Int32), .ref v1, .int (1 : Int32)]) rfl ?_
      refine xZ.callv (κ := oI) (av := [.int (40 : Int32)]) (rest := [.int (1 : Int32)]) (st' := fun x1 => [.int x1, .int (1 : Int32)]) (k0 := v1) (me := xm236) hP_236 rfl (Or.inl rfl) ⟨rfl, by decide⟩ rfl rfl (Nat.le_of_ble_eq_true rfl) (by decide) hP_12 (Nat.le_of_ble_eq_true rfl) (fun _ => rfl) (k_f_LDraw_n O f (d + 65) v1 (40 : Int32) M) (fun x1 M1 => ?_)
      refine xZ.adv (me := xm236) hP_236 4 (pc' := 64) (lv' := [(6, .int (0 : Int32)), (5, .int ((1 : Int32) + x1)), (0, .ref v0), (1, .ref v1), (2, .ref v2), (3, .ref v3), (4, .ref v4)]) (st' := []) rfl ?_
      exact xZ.sub (xsc (.tail _ (.tail _ (.head _))) (xsc (.tail _ (.tail _ (.tail _ (.head _)))) (xsc (.tail _ (.tail _ (.tail _ (.tail _ (.head _))))) (xsc (.tail _ (.tail _ (.tail _ (.tail _ (.tail _ (.head _)))))) (xsc (.tail _ (.tail _ (.tail _ (.tail _ (.tail _ (.tail _ (.head _))))))) (xsc (.tail _ (.head _)) (xsc (.head _) xsn))))))) (show ([6, 5, 0, 1, 2, 3, 4] : List Nat).Nodup from by decide) (k_f_Law_areAlike_64 O f d f v0 v1 v2 v3 v4 ((1 : Int32) + x1) (0 : Int32) M1)
    · skip
      refine xZ.adv (me := xm236) hP_236 2 (pc' := 33) (lv' := [(0, .ref v0), (1, .ref v1), (2, .ref v2), (3, .ref v3), (4, .ref v4), (5, .int v5)]) (st' := [.int (0 : Int32), .ref v3]) rfl ?_
      refine xZ.k_aR (me := xm236) hP_236 rfl (fun x2 => ?_)
      refine xZ.adv (me := xm236) hP_236 2 (pc' := 37) (lv' := [(0, .ref v0), (1, .ref v1), (2, .ref v2), (3, .ref v3), (4, .ref v4), (5, .int v5)]) (st' := [.int (-1 : Int32), .int v5, .ref x2]) rfl ?_
      refine xZ.k_wI (me := xm236) hP_236 rfl (fun M2 => ?_)
      refine xZ.adv (me := xm236) hP_236 2 (pc' := 40) (lv' := [(0, .ref v0), (1, .ref v1), (2, .ref v2), (3, .ref v3), (4, .ref v4), (5, .int v5)]) (st' := [.int (1 : Int32), .ref v3]) rfl ?_
      refine xZ.k_aR (me := xm236) hP_236 rfl (fun x3 => ?_)
      refine xZ.adv (me := xm236) hP_236 2 (pc' := 44) (lv' := [(0, .ref v0), (1, .ref v1), (2, .ref v2), (3, .ref v3), (4, .ref v4), (5, .int v5)]) (st' := [.int (-1 : Int32), .int v5, .ref x3]) rfl ?_
      refine xZ.k_wI (me := xm236) hP_236 rfl (fun M3 => ?_)
      refine xZ.adv (me := xm236) hP_236 2 (pc' := 24) (lv' := [(5, .int (v5 + (1 : Int32))), (0, .ref v0), (1, .ref v1), (2, .ref v2), (3, .ref v3), (4, .ref v4)]) (st' := []) rfl ?_
      exact xZ.sub (xsc (.tail _ (.head _)) (xsc (.tail _ (.tail _ (.head _))) (xsc (.tail _ (.tail _ (.tail _ (.head _)))) (xsc (.tail _ (.tail _ (.tail _ (.tail _ (.head _))))) (xsc (.tail _ (.tail _ (.tail _ (.tail _ (.tail _ (.head _)))))) (xsc (.head _) xsn)))))) (show ([5, 0, 1, 2, 3, 4] : List Nat).Nodup from by decide) (ih v0 v1 v2 v3 v4 (v5 + (1 : Int32)) M3)
def f_Law_areAlike (O : Nat → Option va_E) (f : Nat) (v0 : Nat) (v1 : Nat) (M : xM) : Option (Int32 × xM) :=
  xcl (nA M 0 (2 : Int32)) fun x1 M1 =>
  xcl (nM M1 (2 : Int32) (48 : Int32)) fun x2 M2 =>
  xcl (nM M2 (2 : Int32) (48 : Int32)) fun x3 M3 =>
  f_Law_areAlike_24 O f f v0 v1 x1 x2 x3 (0 : Int32) M3
set_option maxRecDepth 20000 in
theorem k_f_Law_areAlike (O : Nat → Option va_E) (f d : Nat) (v0 : Nat) (v1 : Nat) (M : xM) : xZ oI O (d + 66) 236 0 [(0, .ref v0), (1, .ref v1)] [] M (f_Law_areAlike O f v0 v1 M) := by
  unfold f_Law_areAlike
  refine xZ.adv (me := xm236) hP_236 1 (pc' := 1) (lv' := [(0, .ref v0), (1, .ref v1)]) (st' := [.int (2 : Int32)]) rfl ?_
  refine xZ.k_nA (me := xm236) hP_236 rfl rfl (by decide) (fun x1 M1 => ?_)
  refine xZ.adv (me := xm236) hP_236 3 (pc' := 7) (lv' := [(2, .ref x1), (0, .ref v0), (1, .ref v1)]) (st' := [.int (48 : Int32), .int (2 : Int32)]) rfl ?_
  refine xZ.nMr (me := xm236) hP_236 rfl (fun x2 M2 => ?_)
  refine xZ.adv (me := xm236) hP_236 3 (pc' := 15) (lv' := [(3, .ref x2), (2, .ref x1), (0, .ref v0), (1, .ref v1)]) (st' := [.int (48 : Int32), .int (2 : Int32)]) rfl ?_
  refine xZ.nMr (me := xm236) hP_236 rfl (fun x3 M3 => ?_)
  refine xZ.adv (me := xm236) hP_236 3 (pc' := 24) (lv' := [(5, .int (0 : Int32)), (4, .ref x3), (3, .ref x2), (2, .ref x1), (0, .ref v0), (1, .ref v1)]) (st' := []) rfl ?_
  exact xZ.sub (xsc (.tail _ (.tail _ (.tail _ (.tail _ (.head _))))) (xsc (.tail _ (.tail _ (.tail _ (.tail _ (.tail _ (.head _)))))) (xsc (.tail _ (.tail _ (.tail _ (.head _)))) (xsc (.tail _ (.tail _ (.head _))) (xsc (.tail _ (.head _)) (xsc (.head _) xsn)))))) (show ([5, 4, 3, 2, 0, 1] : List Nat).Nodup from by decide) (k_f_Law_areAlike_24 O f d f v0 v1 x1 x2 x3 (0 : Int32) M3)
def f_Law_law (O : Nat → Option va_E) (f : Nat) (v0 : Nat) (M : xM) : Option (Int32 × xM) :=
  xcl (nO M 15) fun x1 M1 =>
  xcl (f_LDraw_ctor O f x1 v0 M1) fun _ M2 =>
  xcl (nO M2 12) fun x3 M3 =>
  xcl (f_Calendarhall_ctor O f x3 M3) fun _ M4 =>
  (isO O M4 x1 15).bind fun _ =>
  xcl (f_LDraw_n O f x1 (10 : Int32) M4) fun x5 M5 =>
  if x5 = (0 : Int32) then (
    xcl (f_Law_areDays O f x3 x1 M5) fun x6 M6 =>
    if xfit .boolean (.int x6) = true then some (x6, M6) else none
  ) else
  if x5 = (1 : Int32) then (
    xcl (f_Law_areDays O f x3 x1 M5) fun x7 M7 =>
    if xfit .boolean (.int x7) = true then some (x7, M7) else none
  ) else
  if x5 = (2 : Int32) then (
    xcl (f_Law_areDays O f x3 x1 M5) fun x8 M8 =>
    if xfit .boolean (.int x8) = true then some (x8, M8) else none
  ) else
  if x5 = (3 : Int32) then (
    xcl (f_Law_areZones O f x3 x1 M5) fun x9 M9 =>
    if xfit .boolean (.int x9) = true then some (x9, M9) else none
  ) else
  if x5 = (4 : Int32) then (
    xcl (f_Law_areZones O f x3 x1 M5) fun x10 M10 =>
    if xfit .boolean (.int x10) = true then some (x10, M10) else none
  ) else
  if x5 = (5 : Int32) then (
    xcl (f_Law_areFree O f x3 x1 M5) fun x11 M11 =>
    if xfit .boolean (.int x11) = true then some (x11, M11) else none
  ) else
  if x5 = (6 : Int32) then (
    xcl (f_Law_areLaid O f x3 x1 M5) fun x12 M12 =>
    if xfit .boolean (.int x12) = true then some (x12, M12) else none
  ) else
  if x5 = (7 : Int32) then (
    xcl (f_Law_isPlanned O f x3 x1 M5) fun x13 M13 =>
    if xfit .boolean (.int x13) = true then some (x13, M13) else none
  ) else
  if x5 = (8 : Int32) then (
    xcl (f_Law_areRung O f x3 x1 M5) fun x14 M14 =>
    if xfit .boolean (.int x14) = true then some (x14, M14) else none
  ) else
  xcl (f_Law_areAlike O f x3 x1 M5) fun x15 M15 =>
  if xfit .boolean (.int x15) = true then some (x15, M15) else none
set_option maxRecDepth 20000 in
theorem k_f_Law_law (O : Nat → Option va_E) (f d : Nat) (v0 : Nat) (M : xM) : xZ oI O (d + 70) 1000 0 [(0, .ref v0)] [] M (f_Law_law O f v0 M) := by
  unfold f_Law_law
  refine xZ.k_nO (me := xm1000) hP_1000 rfl rfl (fun x1 M1 => ?_)
  refine xZ.adv (me := xm1000) hP_1000 2 (pc' := 5) (lv' := [(0, .ref v0)]) (st' := [.ref v0, .ref x1, .ref x1]) rfl ?_
  refine xZ.calli (κ := oU) (av := [.ref v0]) (rest := [.ref x1]) (st' := fun _ => [.ref x1]) (k0 := x1) (me := xm1000) hP_1000 rfl (Or.inl rfl) rfl rfl (Nat.le_of_ble_eq_true rfl) (by decide) hP_11 (Nat.le_of_ble_eq_true rfl) (fun _ => rfl) (k_f_LDraw_ctor O f (d + 69) x1 v0 M1) (fun _ M2 => ?_)
  refine xZ.adv (me := xm1000) hP_1000 1 (pc' := 9) (lv' := [(1, .ref x1), (0, .ref v0)]) (st' := []) rfl ?_
  refine xZ.k_nO (me := xm1000) hP_1000 rfl rfl (fun x3 M3 => ?_)
  refine xZ.adv (me := xm1000) hP_1000 1 (pc' := 13) (lv' := [(1, .ref x1), (0, .ref v0)]) (st' := [.ref x3, .ref x3]) rfl ?_
  refine xZ.calli (κ := oU) (av := []) (rest := [.ref x3]) (st' := fun _ => [.ref x3]) (k0 := x3) (me := xm1000) hP_1000 rfl (Or.inl rfl) rfl rfl (Nat.le_of_ble_eq_true rfl) (by decide) hP_0 (Nat.le_of_ble_eq_true rfl) (fun _ => rfl) (k_f_Calendarhall_ctor O f (d + 66) x3 M3) (fun _ M4 => ?_)
  refine xZ.adv (me := xm1000) hP_1000 3 (pc' := 20) (lv' := [(2, .ref x3), (1, .ref x1), (0, .ref v0)]) (st' := [.int (10 : Int32), .ref x1]) rfl ?_
  refine xZ.callv (κ := oI) (av := [.int (10 : Int32)]) (rest := []) (st' := fun x5 => [.int x5]) (k0 := x1) (me := xm1000) hP_1000 rfl (Or.inl rfl) ⟨rfl, by decide⟩ rfl rfl (Nat.le_of_ble_eq_true rfl) (by decide) hP_12 (Nat.le_of_ble_eq_true rfl) (fun _ => rfl) (k_f_LDraw_n O f (d + 69) x1 (10 : Int32) M4) (fun x5 M5 => ?_)
  refine xZ.cs (fun h1 => ?_) (fun h1 => ?_)
  · refine xZ.one (pc' := 72) (lv' := [(2, .ref x3), (1, .ref x1), (0, .ref v0)]) (st' := []) (me := xm1000) hP_1000 rfl (by rw [h1]; rfl) ?_
    refine xZ.adv (me := xm1000) hP_1000 2 (pc' := 74) (lv' := [(2, .ref x3), (1, .ref x1), (0, .ref v0)]) (st' := [.ref x1, .ref x3]) rfl ?_
    refine xZ.calls (κ := oI) (av := [.ref x3, .ref x1]) (rest := []) (st' := fun x6 => [.int x6]) (me := xm1000) hP_1000 rfl rfl rfl (Nat.le_of_ble_eq_true rfl) (by decide) hP_13 (Nat.le_of_ble_eq_true rfl) (fun _ => rfl) (k_f_Law_areDays O f (d + 58) x3 x1 M5) (fun x6 M6 => ?_)
    exact xZ.retf (me := xm1000) hP_1000 rfl rfl
  refine xZ.cs (fun h2 => ?_) (fun h2 => ?_)
  · refine xZ.one (pc' := 72) (lv' := [(2, .ref x3), (1, .ref x1), (0, .ref v0)]) (st' := []) (me := xm1000) hP_1000 rfl (by rw [h2]; rfl) ?_
    refine xZ.adv (me := xm1000) hP_1000 2 (pc' := 74) (lv' := [(2, .ref x3), (1, .ref x1), (0, .ref v0)]) (st' := [.ref x1, .ref x3]) rfl ?_
    refine xZ.calls (κ := oI) (av := [.ref x3, .ref x1]) (rest := []) (st' := fun x7 => [.int x7]) (me := xm1000) hP_1000 rfl rfl rfl (Nat.le_of_ble_eq_true rfl) (by decide) hP_13 (Nat.le_of_ble_eq_true rfl) (fun _ => rfl) (k_f_Law_areDays O f (d + 58) x3 x1 M5) (fun x7 M7 => ?_)
    exact xZ.retf (me := xm1000) hP_1000 rfl rfl
  refine xZ.cs (fun h3 => ?_) (fun h3 => ?_)
  · refine xZ.one (pc' := 72) (lv' := [(2, .ref x3), (1, .ref x1), (0, .ref v0)]) (st' := []) (me := xm1000) hP_1000 rfl (by rw [h3]; rfl) ?_
    refine xZ.adv (me := xm1000) hP_1000 2 (pc' := 74) (lv' := [(2, .ref x3), (1, .ref x1), (0, .ref v0)]) (st' := [.ref x1, .ref x3]) rfl ?_
    refine xZ.calls (κ := oI) (av := [.ref x3, .ref x1]) (rest := []) (st' := fun x8 => [.int x8]) (me := xm1000) hP_1000 rfl rfl rfl (Nat.le_of_ble_eq_true rfl) (by decide) hP_13 (Nat.le_of_ble_eq_true rfl) (fun _ => rfl) (k_f_Law_areDays O f (d + 58) x3 x1 M5) (fun x8 M8 => ?_)
    exact xZ.retf (me := xm1000) hP_1000 rfl rfl
  refine xZ.cs (fun h4 => ?_) (fun h4 => ?_)
  · refine xZ.one (pc' := 78) (lv' := [(2, .ref x3), (1, .ref x1), (0, .ref v0)]) (st' := []) (me := xm1000) hP_1000 rfl (by rw [h4]; rfl) ?_
    refine xZ.adv (me := xm1000) hP_1000 2 (pc' := 80) (lv' := [(2, .ref x3), (1, .ref x1), (0, .ref v0)]) (st' := [.ref x1, .ref x3]) rfl ?_
    refine xZ.calls (κ := oI) (av := [.ref x3, .ref x1]) (rest := []) (st' := fun x9 => [.int x9]) (me := xm1000) hP_1000 rfl rfl rfl (Nat.le_of_ble_eq_true rfl) (by decide) hP_138 (Nat.le_of_ble_eq_true rfl) (fun _ => rfl) (k_f_Law_areZones O f (d + 62) x3 x1 M5) (fun x9 M9 => ?_)
    exact xZ.retf (me := xm1000) hP_1000 rfl rfl
  refine xZ.cs (fun h5 => ?_) (fun h5 => ?_)
  · refine xZ.one (pc' := 78) (lv' := [(2, .ref x3), (1, .ref x1), (0, .ref v0)]) (st' := []) (me := xm1000) hP_1000 rfl (by rw [h5]; rfl) ?_
    refine xZ.adv (me := xm1000) hP_1000 2 (pc' := 80) (lv' := [(2, .ref x3), (1, .ref x1), (0, .ref v0)]) (st' := [.ref x1, .ref x3]) rfl ?_
    refine xZ.calls (κ := oI) (av := [.ref x3, .ref x1]) (rest := []) (st' := fun x10 => [.int x10]) (me := xm1000) hP_1000 rfl rfl rfl (Nat.le_of_ble_eq_true rfl) (by decide) hP_138 (Nat.le_of_ble_eq_true rfl) (fun _ => rfl) (k_f_Law_areZones O f (d + 62) x3 x1 M5) (fun x10 M10 => ?_)
    exact xZ.retf (me := xm1000) hP_1000 rfl rfl
  refine xZ.cs (fun h6 => ?_) (fun h6 => ?_)
  · refine xZ.one (pc' := 84) (lv' := [(2, .ref x3), (1, .ref x1), (0, .ref v0)]) (st' := []) (me := xm1000) hP_1000 rfl (by rw [h6]; rfl) ?_
    refine xZ.adv (me := xm1000) hP_1000 2 (pc' := 86) (lv' := [(2, .ref x3), (1, .ref x1), (0, .ref v0)]) (st' := [.ref x1, .ref x3]) rfl ?_
    refine xZ.calls (κ := oI) (av := [.ref x3, .ref x1]) (rest := []) (st' := fun x11 => [.int x11]) (me := xm1000) hP_1000 rfl rfl rfl (Nat.le_of_ble_eq_true rfl) (by decide) hP_145 (Nat.le_of_ble_eq_true rfl) (fun _ => rfl) (k_f_Law_areFree O f (d + 60) x3 x1 M5) (fun x11 M11 => ?_)
    exact xZ.retf (me := xm1000) hP_1000 rfl rfl
  refine xZ.cs (fun h7 => ?_) (fun h7 => ?_)
  · refine xZ.one (pc' := 90) (lv' := [(2, .ref x3), (1, .ref x1), (0, .ref v0)]) (st' := []) (me := xm1000) hP_1000 rfl (by rw [h7]; rfl) ?_
    refine xZ.adv (me := xm1000) hP_1000 2 (pc' := 92) (lv' := [(2, .ref x3), (1, .ref x1), (0, .ref v0)]) (st' := [.ref x1, .ref x3]) rfl ?_
    refine xZ.calls (κ := oI) (av := [.ref x3, .ref x1]) (rest := []) (st' := fun x12 => [.int x12]) (me := xm1000) hP_1000 rfl rfl rfl (Nat.le_of_ble_eq_true rfl) (by decide) hP_186 (Nat.le_of_ble_eq_true rfl) (fun _ => rfl) (k_f_Law_areLaid O f (d + 60) x3 x1 M5) (fun x12 M12 => ?_)
    exact xZ.retf (me := xm1000) hP_1000 rfl rfl
  refine xZ.cs (fun h8 => ?_) (fun h8 => ?_)
  · refine xZ.one (pc' := 96) (lv' := [(2, .ref x3), (1, .ref x1), (0, .ref v0)]) (st' := []) (me := xm1000) hP_1000 rfl (by rw [h8]; rfl) ?_
    refine xZ.adv (me := xm1000) hP_1000 2 (pc' := 98) (lv' := [(2, .ref x3), (1, .ref x1), (0, .ref v0)]) (st' := [.ref x1, .ref x3]) rfl ?_
    refine xZ.calls (κ := oI) (av := [.ref x3, .ref x1]) (rest := []) (st' := fun x13 => [.int x13]) (me := xm1000) hP_1000 rfl rfl rfl (Nat.le_of_ble_eq_true rfl) (by decide) hP_203 (Nat.le_of_ble_eq_true rfl) (fun _ => rfl) (k_f_Law_isPlanned O f (d + 0) x3 x1 M5) (fun x13 M13 => ?_)
    exact xZ.retf (me := xm1000) hP_1000 rfl rfl
  refine xZ.cs (fun h9 => ?_) (fun h9 => ?_)
  · refine xZ.one (pc' := 102) (lv' := [(2, .ref x3), (1, .ref x1), (0, .ref v0)]) (st' := []) (me := xm1000) hP_1000 rfl (by rw [h9]; rfl) ?_
    refine xZ.adv (me := xm1000) hP_1000 2 (pc' := 104) (lv' := [(2, .ref x3), (1, .ref x1), (0, .ref v0)]) (st' := [.ref x1, .ref x3]) rfl ?_
    refine xZ.calls (κ := oI) (av := [.ref x3, .ref x1]) (rest := []) (st' := fun x14 => [.int x14]) (me := xm1000) hP_1000 rfl rfl rfl (Nat.le_of_ble_eq_true rfl) (by decide) hP_220 (Nat.le_of_ble_eq_true rfl) (fun _ => rfl) (k_f_Law_areRung O f (d + 60) x3 x1 M5) (fun x14 M14 => ?_)
    exact xZ.retf (me := xm1000) hP_1000 rfl rfl
  refine xZ.tsw (pc' := 108) (me := xm1000) hP_1000 rfl (xsw_out x5 (by decide) [(0 : Int32), (1 : Int32), (2 : Int32), (3 : Int32), (4 : Int32), (5 : Int32), (6 : Int32), (7 : Int32), (8 : Int32)] (by decide) ⟨h1, h2, h3, h4, h5, h6, h7, h8, h9, trivial⟩) rfl rfl ?_
  refine xZ.adv (me := xm1000) hP_1000 2 (pc' := 110) (lv' := [(2, .ref x3), (1, .ref x1), (0, .ref v0)]) (st' := [.ref x1, .ref x3]) rfl ?_
  refine xZ.calls (κ := oI) (av := [.ref x3, .ref x1]) (rest := []) (st' := fun x15 => [.int x15]) (me := xm1000) hP_1000 rfl rfl rfl (Nat.le_of_ble_eq_true rfl) (by decide) hP_236 (Nat.le_of_ble_eq_true rfl) (fun _ => rfl) (k_f_Law_areAlike O f (d + 3) x3 x1 M5) (fun x15 M15 => ?_)
  exact xZ.retf (me := xm1000) hP_1000 rfl rfl
