/-! ===== texts ===== -/
def f_Calendarhall_nextDay (O : Nat → Option va_E) (f : Nat) (v0 : Nat) (v1 : Int32) (v2 : Int32) (M : xM) : Option (Int32 × xM) :=
  (isO O M v0 12).bind fun _ =>
  xcl (f_Calendarhall_seriesNumbered O f v0 v1 M) fun x1 M1 =>
  xcl (f_Calendarhall_needDay O f v2 M1) fun _ M2 =>
  (gR O M2 x1 10 6).bind fun x3 =>
  (isO O M2 x3 9).bind fun _ =>
  xcl (f_Rule_next O f x3 v2 M2) fun x4 M3 =>
  some (x4, M3)
set_option maxRecDepth 20000 in
theorem k_f_Calendarhall_nextDay (O : Nat → Option va_E) (f d : Nat) (v0 : Nat) (v1 : Int32) (v2 : Int32) (M : xM) : xZ oI O (d + 5) 91 0 [(0, .ref v0), (1, .int v1), (2, .int v2)] [] M (f_Calendarhall_nextDay O f v0 v1 v2 M) := by
  unfold f_Calendarhall_nextDay
  refine xZ.adv (me := xm91) hP_91 2 (pc' := 2) (lv' := [(0, .ref v0), (1, .int v1), (2, .int v2)]) (st' := [.int v1, .ref v0]) rfl ?_
  refine xZ.callv (κ := oR) (av := [.int v1]) (rest := []) (st' := fun x1 => [.ref x1]) (k0 := v0) (me := xm91) hP_91 rfl (Or.inl rfl) ⟨rfl, by decide⟩ rfl rfl (Nat.le_of_ble_eq_true rfl) (by decide) hP_79 (Nat.le_of_ble_eq_true rfl) (fun _ => rfl) (k_f_Calendarhall_seriesNumbered O f (d + 3) v0 v1 M) (fun x1 M1 => ?_)
  refine xZ.adv (me := xm91) hP_91 2 (pc' := 7) (lv' := [(3, .ref x1), (0, .ref v0), (1, .int v1), (2, .int v2)]) (st' := [.int v2]) rfl ?_
  refine xZ.calls (κ := oU) (av := [.int v2]) (rest := []) (st' := fun _ => []) (me := xm91) hP_91 rfl rfl rfl (Nat.le_of_ble_eq_true rfl) (by decide) hP_37 (Nat.le_of_ble_eq_true rfl) (fun _ => rfl) (k_f_Calendarhall_needDay O f (d + 4) v2 M1) (fun _ M2 => ?_)
  refine xZ.adv (me := xm91) hP_91 1 (pc' := 11) (lv' := [(3, .ref x1), (0, .ref v0), (1, .int v1), (2, .int v2)]) (st' := [.ref x1]) rfl ?_
  refine xZ.k_gR (me := xm91) hP_91 rfl (fun x3 => ?_)
  refine xZ.adv (me := xm91) hP_91 1 (pc' := 15) (lv' := [(3, .ref x1), (0, .ref v0), (1, .int v1), (2, .int v2)]) (st' := [.int v2, .ref x3]) rfl ?_
  refine xZ.callv (κ := oI) (av := [.int v2]) (rest := []) (st' := fun x4 => [.int x4]) (k0 := x3) (me := xm91) hP_91 rfl (Or.inl rfl) ⟨rfl, by decide⟩ rfl rfl (Nat.le_of_ble_eq_true rfl) (by decide) hP_45 (Nat.le_of_ble_eq_true rfl) (fun _ => rfl) (k_f_Rule_next O f (d + 0) x3 v2 M2) (fun x4 M3 => ?_)
  exact xZ.reti (me := xm91) hP_91 rfl rfl
def f_Calendarhall_dayOfSeries (O : Nat → Option va_E) (f : Nat) (v0 : Nat) (v1 : Int32) (v2 : Int32) (M : xM) : Option (Int32 × xM) :=
  (isO O M v0 12).bind fun _ =>
  xcl (f_Calendarhall_seriesNumbered O f v0 v1 M) fun x1 M1 =>
  xcl (f_Calendarhall_needRange O f v2 (0 : Int32) (500 : Int32) M1) fun _ M2 =>
  (gR O M2 x1 10 6).bind fun x3 =>
  (isO O M2 x3 9).bind fun _ =>
  xcl (f_Rule_dayByPlace O f x3 v2 M2) fun x4 M3 =>
  if x4 = (-1 : Int32) then (
    none
  ) else
  some (x4, M3)
set_option maxRecDepth 20000 in
theorem k_f_Calendarhall_dayOfSeries (O : Nat → Option va_E) (f d : Nat) (v0 : Nat) (v1 : Int32) (v2 : Int32) (M : xM) : xZ oI O (d + 6) 92 0 [(0, .ref v0), (1, .int v1), (2, .int v2)] [] M (f_Calendarhall_dayOfSeries O f v0 v1 v2 M) := by
  unfold f_Calendarhall_dayOfSeries
  refine xZ.adv (me := xm92) hP_92 2 (pc' := 2) (lv' := [(0, .ref v0), (1, .int v1), (2, .int v2)]) (st' := [.int v1, .ref v0]) rfl ?_
  refine xZ.callv (κ := oR) (av := [.int v1]) (rest := []) (st' := fun x1 => [.ref x1]) (k0 := v0) (me := xm92) hP_92 rfl (Or.inl rfl) ⟨rfl, by decide⟩ rfl rfl (Nat.le_of_ble_eq_true rfl) (by decide) hP_79 (Nat.le_of_ble_eq_true rfl) (fun _ => rfl) (k_f_Calendarhall_seriesNumbered O f (d + 4) v0 v1 M) (fun x1 M1 => ?_)
  refine xZ.adv (me := xm92) hP_92 4 (pc' := 11) (lv' := [(3, .ref x1), (0, .ref v0), (1, .int v1), (2, .int v2)]) (st' := [.int (500 : Int32), .int (0 : Int32), .int v2]) rfl ?_
  refine xZ.calls (κ := oU) (av := [.int v2, .int (0 : Int32), .int (500 : Int32)]) (rest := []) (st' := fun _ => []) (me := xm92) hP_92 rfl rfl rfl (Nat.le_of_ble_eq_true rfl) (by decide) hP_22 (Nat.le_of_ble_eq_true rfl) (fun _ => rfl) (k_f_Calendarhall_needRange O f (d + 5) v2 (0 : Int32) (500 : Int32) M1) (fun _ M2 => ?_)
  refine xZ.adv (me := xm92) hP_92 1 (pc' := 15) (lv' := [(3, .ref x1), (0, .ref v0), (1, .int v1), (2, .int v2)]) (st' := [.ref x1]) rfl ?_
  refine xZ.k_gR (me := xm92) hP_92 rfl (fun x3 => ?_)
  refine xZ.adv (me := xm92) hP_92 1 (pc' := 19) (lv' := [(3, .ref x1), (0, .ref v0), (1, .int v1), (2, .int v2)]) (st' := [.int v2, .ref x3]) rfl ?_
  refine xZ.callv (κ := oI) (av := [.int v2]) (rest := []) (st' := fun x4 => [.int x4]) (k0 := x3) (me := xm92) hP_92 rfl (Or.inl rfl) ⟨rfl, by decide⟩ rfl rfl (Nat.le_of_ble_eq_true rfl) (by decide) hP_44 (Nat.le_of_ble_eq_true rfl) (fun _ => rfl) (k_f_Rule_dayByPlace O f (d + 0) x3 v2 M2) (fun x4 M3 => ?_)
  refine xZ.adv (me := xm92) hP_92 3 (pc' := 27) (lv' := [(4, .int x4), (3, .ref x1), (0, .ref v0), (1, .int v1), (2, .int v2)]) (st' := [.int (-1 : Int32), .int x4]) rfl ?_
  refine xZ.ic_ne (me := xm92) hP_92 rfl (fun h1 => ?_) (fun h1 => ?_)
  · skip
    exact xZ.no
  · skip
    refine xZ.adv (me := xm92) hP_92 1 (pc' := 40) (lv' := [(4, .int x4), (3, .ref x1), (0, .ref v0), (1, .int v1), (2, .int v2)]) (st' := [.int x4]) rfl ?_
    exact xZ.reti (me := xm92) hP_92 rfl rfl
def f_Rule_countByWeeks_66 (O : Nat → Option va_E) (f : Nat) (v0 : Nat) (v3 : Int32) (s0 : Int32) (M : xM) : Option (Int32 × xM) :=
  (gI O M v0 9 0).bind fun x1 =>
  xcl (f_Days_weekdayOf O f x1 M) fun x2 M1 =>
  xlet (((1 : Int32) <<< (x2 &&& 31)) - (1 : Int32)) fun x3 =>
  (gI O M1 v0 9 3).bind fun x4 =>
  xcl (f_Integer_bitCount O f x4 M1) fun x5 M2 =>
  (gI O M2 v0 9 3).bind fun x6 =>
  xcl (f_Integer_bitCount O f (x6 &&& s0) M2) fun x7 M3 =>
  (gI O M3 v0 9 3).bind fun x8 =>
  xcl (f_Integer_bitCount O f (x8 &&& x3) M3) fun x9 M4 =>
  some ((((v3 * x5) + x7) - x9), M4)
set_option maxRecDepth 20000 in
theorem k_f_Rule_countByWeeks_66 (O : Nat → Option va_E) (f d : Nat) (v0 : Nat) (v3 : Int32) (s0 : Int32) (M : xM) : xZ oI O (d + 1) 95 66 [(0, .ref v0), (3, .int v3)] [.int s0] M (f_Rule_countByWeeks_66 O f v0 v3 s0 M) := by
  unfold f_Rule_countByWeeks_66
  refine xZ.adv (me := xm95) hP_95 3 (pc' := 70) (lv' := [(4, .int s0), (0, .ref v0), (3, .int v3)]) (st' := [.ref v0, .int (1 : Int32)]) rfl ?_
  refine xZ.k_gI (me := xm95) hP_95 rfl (fun x1 => ?_)
  refine xZ.calls (κ := oI) (av := [.int x1]) (rest := [.int (1 : Int32)]) (st' := fun x2 => [.int x2, .int (1 : Int32)]) (me := xm95) hP_95 rfl rfl rfl (Nat.le_of_ble_eq_true rfl) (by decide) hP_49 (Nat.le_of_ble_eq_true rfl) (fun _ => rfl) (k_f_Days_weekdayOf O f (d + 0) x1 M) (fun x2 M1 => ?_)
  refine xZ.adv (me := xm95) hP_95 4 (pc' := 81) (lv' := [(5, .int (((1 : Int32) <<< (x2 &&& 31)) - (1 : Int32))), (4, .int s0), (0, .ref v0), (3, .int v3)]) (st' := []) rfl ?_
  refine xZ.letI (v := (((1 : Int32) <<< (x2 &&& 31)) - (1 : Int32))) (lvf := fun x3 => [(5, .int x3), (4, .int s0), (0, .ref v0), (3, .int v3)]) (stf := fun x3 => []) ?_
  intro x3
  refine xZ.adv (me := xm95) hP_95 2 (pc' := 83) (lv' := [(5, .int x3), (4, .int s0), (0, .ref v0), (3, .int v3)]) (st' := [.ref v0, .int v3]) rfl ?_
  refine xZ.k_gI (me := xm95) hP_95 rfl (fun x4 => ?_)
  refine xZ.calls (κ := oI) (av := [.int x4]) (rest := [.int v3]) (st' := fun x5 => [.int x5, .int v3]) (me := xm95) hP_95 rfl rfl rfl (Nat.le_of_ble_eq_true rfl) (by decide) hP_252 (Nat.le_of_ble_eq_true rfl) (fun _ => rfl) (k_f_Integer_bitCount O f (d + 0) x4 M1) (fun x5 M2 => ?_)
  refine xZ.adv (me := xm95) hP_95 2 (pc' := 91) (lv' := [(5, .int x3), (4, .int s0), (0, .ref v0), (3, .int v3)]) (st' := [.ref v0, .int (v3 * x5)]) rfl ?_
  refine xZ.k_gI (me := xm95) hP_95 rfl (fun x6 => ?_)
  refine xZ.adv (me := xm95) hP_95 2 (pc' := 97) (lv' := [(5, .int x3), (4, .int s0), (0, .ref v0), (3, .int v3)]) (st' := [.int (x6 &&& s0), .int (v3 * x5)]) rfl ?_
  refine xZ.calls (κ := oI) (av := [.int (x6 &&& s0)]) (rest := [.int (v3 * x5)]) (st' := fun x7 => [.int x7, .int (v3 * x5)]) (me := xm95) hP_95 rfl rfl rfl (Nat.le_of_ble_eq_true rfl) (by decide) hP_252 (Nat.le_of_ble_eq_true rfl) (fun _ => rfl) (k_f_Integer_bitCount O f (d + 0) (x6 &&& s0) M2) (fun x7 M3 => ?_)
  refine xZ.adv (me := xm95) hP_95 2 (pc' := 102) (lv' := [(5, .int x3), (4, .int s0), (0, .ref v0), (3, .int v3)]) (st' := [.ref v0, .int ((v3 * x5) + x7)]) rfl ?_
  refine xZ.k_gI (me := xm95) hP_95 rfl (fun x8 => ?_)
  refine xZ.adv (me := xm95) hP_95 2 (pc' := 108) (lv' := [(5, .int x3), (4, .int s0), (0, .ref v0), (3, .int v3)]) (st' := [.int (x8 &&& x3), .int ((v3 * x5) + x7)]) rfl ?_
  refine xZ.calls (κ := oI) (av := [.int (x8 &&& x3)]) (rest := [.int ((v3 * x5) + x7)]) (st' := fun x9 => [.int x9, .int ((v3 * x5) + x7)]) (me := xm95) hP_95 rfl rfl rfl (Nat.le_of_ble_eq_true rfl) (by decide) hP_252 (Nat.le_of_ble_eq_true rfl) (fun _ => rfl) (k_f_Integer_bitCount O f (d + 0) (x8 &&& x3) M3) (fun x9 M4 => ?_)
  refine xZ.adv (me := xm95) hP_95 1 (pc' := 112) (lv' := [(5, .int x3), (4, .int s0), (0, .ref v0), (3, .int v3)]) (st' := [.int (((v3 * x5) + x7) - x9)]) rfl ?_
  exact xZ.reti (me := xm95) hP_95 rfl rfl
def f_Rule_countByWeeks (O : Nat → Option va_E) (f : Nat) (v0 : Nat) (v1 : Int32) (M : xM) : Option (Int32 × xM) :=
  (gI O M v0 9 0).bind fun x1 =>
  if v1 < x1 then (
    some ((0 : Int32), M)
  ) else
  (gI O M v0 9 2).bind fun x2 =>
  if (1 : Int32) ≤ x2 then (
    xcl (f_Days_weekOf O f v1 M) fun x3 M1 =>
    (gI O M1 v0 9 0).bind fun x4 =>
    xcl (f_Days_weekOf O f x4 M1) fun x5 M2 =>
    (gI O M2 v0 9 2).bind fun x6 =>
    (gI O M2 v0 9 2).bind fun x7 =>
    if x7 = 0 then none else xlet ((((x3 - x5) + x6) - (1 : Int32)) / x7) fun x8 =>
    (gI O M2 v0 9 2).bind fun x9 =>
    if x9 = 0 then none else xlet ((x3 - x5) - (x3 - x5) / x9 * x9) fun x10 =>
    if x10 = 0 then (
      xcl (f_Days_weekdayOf O f v1 M2) fun x11 M3 =>
      f_Rule_countByWeeks_66 O f v0 x8 (((2 : Int32) <<< (x11 &&& 31)) - (1 : Int32)) M3
    ) else
    f_Rule_countByWeeks_66 O f v0 x8 (0 : Int32) M2
  ) else
  some ((0 : Int32), M)
set_option maxRecDepth 20000 in
theorem k_f_Rule_countByWeeks (O : Nat → Option va_E) (f d : Nat) (v0 : Nat) (v1 : Int32) (M : xM) : xZ oI O (d + 1) 95 0 [(0, .ref v0), (1, .int v1)] [] M (f_Rule_countByWeeks O f v0 v1 M) := by
  unfold f_Rule_countByWeeks
  refine xZ.adv (me := xm95) hP_95 2 (pc' := 2) (lv' := [(0, .ref v0), (1, .int v1)]) (st' := [.ref v0, .int v1]) rfl ?_
  refine xZ.k_gI (me := xm95) hP_95 rfl (fun x1 => ?_)
  refine xZ.ic_lt (me := xm95) hP_95 rfl (fun h1 => ?_) (fun h1 => ?_)
  · skip
    refine xZ.adv (me := xm95) hP_95 1 (pc' := 17) (lv' := [(0, .ref v0), (1, .int v1)]) (st' := [.int (0 : Int32)]) rfl ?_
    exact xZ.reti (me := xm95) hP_95 rfl rfl
  · skip
    refine xZ.adv (me := xm95) hP_95 1 (pc' := 9) (lv' := [(0, .ref v0), (1, .int v1)]) (st' := [.ref v0]) rfl ?_
    refine xZ.k_gI (me := xm95) hP_95 rfl (fun x2 => ?_)
    refine xZ.adv (me := xm95) hP_95 1 (pc' := 13) (lv' := [(0, .ref v0), (1, .int v1)]) (st' := [.int (1 : Int32), .int x2]) rfl ?_
    refine xZ.ic_ge (me := xm95) hP_95 rfl (fun h2 => ?_) (fun h2 => ?_)
    · skip
      refine xZ.adv (me := xm95) hP_95 1 (pc' := 19) (lv' := [(0, .ref v0), (1, .int v1)]) (st' := [.int v1]) rfl ?_
      refine xZ.calls (κ := oI) (av := [.int v1]) (rest := []) (st' := fun x3 => [.int x3]) (me := xm95) hP_95 rfl rfl rfl (Nat.le_of_ble_eq_true rfl) (by decide) hP_47 (Nat.le_of_ble_eq_true rfl) (fun _ => rfl) (k_f_Days_weekOf O f (d + 0) v1 M) (fun x3 M1 => ?_)
      refine xZ.adv (me := xm95) hP_95 1 (pc' := 23) (lv' := [(0, .ref v0), (1, .int v1)]) (st' := [.ref v0, .int x3]) rfl ?_
      refine xZ.k_gI (me := xm95) hP_95 rfl (fun x4 => ?_)
      refine xZ.calls (κ := oI) (av := [.int x4]) (rest := [.int x3]) (st' := fun x5 => [.int x5, .int x3]) (me := xm95) hP_95 rfl rfl rfl (Nat.le_of_ble_eq_true rfl) (by decide) hP_47 (Nat.le_of_ble_eq_true rfl) (fun _ => rfl) (k_f_Days_weekOf O f (d + 0) x4 M1) (fun x5 M2 => ?_)
      refine xZ.adv (me := xm95) hP_95 4 (pc' := 33) (lv' := [(2, .int (x3 - x5)), (0, .ref v0), (1, .int v1)]) (st' := [.ref v0, .int (x3 - x5)]) rfl ?_
      refine xZ.k_gI (me := xm95) hP_95 rfl (fun x6 => ?_)
      refine xZ.adv (me := xm95) hP_95 4 (pc' := 40) (lv' := [(2, .int (x3 - x5)), (0, .ref v0), (1, .int v1)]) (st' := [.ref v0, .int (((x3 - x5) + x6) - (1 : Int32))]) rfl ?_
      refine xZ.k_gI (me := xm95) hP_95 rfl (fun x7 => ?_)
      refine xZ.div (me := xm95) hP_95 rfl (fun x8 => ?_)
      refine xZ.adv (me := xm95) hP_95 3 (pc' := 47) (lv' := [(3, .int x8), (2, .int (x3 - x5)), (0, .ref v0), (1, .int v1)]) (st' := [.ref v0, .int (x3 - x5)]) rfl ?_
      refine xZ.k_gI (me := xm95) hP_95 rfl (fun x9 => ?_)
      refine xZ.rem (me := xm95) hP_95 rfl (fun x10 => ?_)
      refine xZ.if_ne (me := xm95) hP_95 rfl (fun h3 => ?_) (fun h3 => ?_)
      · skip
        refine xZ.adv (me := xm95) hP_95 2 (pc' := 56) (lv' := [(3, .int x8), (2, .int (x3 - x5)), (0, .ref v0), (1, .int v1)]) (st' := [.int v1, .int (2 : Int32)]) rfl ?_
        refine xZ.calls (κ := oI) (av := [.int v1]) (rest := [.int (2 : Int32)]) (st' := fun x11 => [.int x11, .int (2 : Int32)]) (me := xm95) hP_95 rfl rfl rfl (Nat.le_of_ble_eq_true rfl) (by decide) hP_49 (Nat.le_of_ble_eq_true rfl) (fun _ => rfl) (k_f_Days_weekdayOf O f (d + 0) v1 M2) (fun x11 M3 => ?_)
        refine xZ.adv (me := xm95) hP_95 4 (pc' := 66) (lv' := [(3, .int x8), (2, .int (x3 - x5)), (0, .ref v0), (1, .int v1)]) (st' := [.int (((2 : Int32) <<< (x11 &&& 31)) - (1 : Int32))]) rfl ?_
        exact xZ.sub (xsc (.tail _ (.tail _ (.head _))) (xsc (.head _) xsn)) (show ([3, 2, 0, 1] : List Nat).Nodup from by decide) (k_f_Rule_countByWeeks_66 O f d v0 x8 (((2 : Int32) <<< (x11 &&& 31)) - (1 : Int32)) M3)
      · skip
        refine xZ.adv (me := xm95) hP_95 1 (pc' := 66) (lv' := [(3, .int x8), (2, .int (x3 - x5)), (0, .ref v0), (1, .int v1)]) (st' := [.int (0 : Int32)]) rfl ?_
        exact xZ.sub (xsc (.tail _ (.tail _ (.head _))) (xsc (.head _) xsn)) (show ([3, 2, 0, 1] : List Nat).Nodup from by decide) (k_f_Rule_countByWeeks_66 O f d v0 x8 (0 : Int32) M2)
    · skip
      refine xZ.adv (me := xm95) hP_95 1 (pc' := 17) (lv' := [(0, .ref v0), (1, .int v1)]) (st' := [.int (0 : Int32)]) rfl ?_
      exact xZ.reti (me := xm95) hP_95 rfl rfl
def f_Rule_countByMonths_76 (O : Nat → Option va_E) (f : Nat) (K46 : Nat → Int32 → Int32 → Int32 → Int32 → Int32 → Int32 → xM → Option (Int32 × xM)) (v0 : Nat) (v1 : Int32) (v2 : Int32) (v3 : Int32) (v5 : Int32) (v6 : Int32) (v7 : Int32) (M : xM) : Option (Int32 × xM) :=
  K46 v0 v1 v2 v3 v5 v6 (v7 + v3) M
set_option maxRecDepth 20000 in
theorem k_f_Rule_countByMonths_76 (O : Nat → Option va_E) (f d : Nat) (K46 : Nat → Int32 → Int32 → Int32 → Int32 → Int32 → Int32 → xM → Option (Int32 × xM)) (hK46 : ∀ (v0 : Nat) (v1 : Int32) (v2 : Int32) (v3 : Int32) (v5 : Int32) (v6 : Int32) (v7 : Int32) M, xZ oI O (d + 3) 96 46 [(0, .ref v0), (1, .int v1), (2, .int v2), (3, .int v3), (5, .int v5), (6, .int v6), (7, .int v7)] [] M (K46 v0 v1 v2 v3 v5 v6 v7 M)) (v0 : Nat) (v1 : Int32) (v2 : Int32) (v3 : Int32) (v5 : Int32) (v6 : Int32) (v7 : Int32) (M : xM) : xZ oI O (d + 3) 96 76 [(0, .ref v0), (1, .int v1), (2, .int v2), (3, .int v3), (5, .int v5), (6, .int v6), (7, .int v7)] [] M (f_Rule_countByMonths_76 O f K46 v0 v1 v2 v3 v5 v6 v7 M) := by
  unfold f_Rule_countByMonths_76
  refine xZ.adv (me := xm96) hP_96 5 (pc' := 46) (lv' := [(7, .int (v7 + v3)), (0, .ref v0), (1, .int v1), (2, .int v2), (3, .int v3), (5, .int v5), (6, .int v6)]) (st' := []) rfl ?_
  exact xZ.sub (xsc (.tail _ (.head _)) (xsc (.tail _ (.tail _ (.head _))) (xsc (.tail _ (.tail _ (.tail _ (.head _)))) (xsc (.tail _ (.tail _ (.tail _ (.tail _ (.head _))))) (xsc (.tail _ (.tail _ (.tail _ (.tail _ (.tail _ (.head _)))))) (xsc (.tail _ (.tail _ (.tail _ (.tail _ (.tail _ (.tail _ (.head _))))))) (xsc (.head _) xsn))))))) (show ([7, 0, 1, 2, 3, 5, 6] : List Nat).Nodup from by decide) (hK46 v0 v1 v2 v3 v5 v6 (v7 + v3) M)
def f_Rule_countByMonths_46 (O : Nat → Option va_E) (f : Nat) : Nat → Nat → Int32 → Int32 → Int32 → Int32 → Int32 → Int32 → xM → Option (Int32 × xM)
  | 0, _, _, _, _, _, _, _, _ => none
  | n + 1, v0, v1, v2, v3, v5, v6, v7, M =>
    if v5 < v7 then (
      some (v6, M)
    ) else
    (isO O M v0 9).bind fun _ =>
    xcl (f_Rule_dayInMonth O f v0 v7 M) fun x1 M1 =>
    if x1 < v1 then (
      f_Rule_countByMonths_76 O f (f_Rule_countByMonths_46 O f n) v0 v1 v2 v3 v5 v6 v7 M1
    ) else
    if v2 < x1 then (
      f_Rule_countByMonths_76 O f (f_Rule_countByMonths_46 O f n) v0 v1 v2 v3 v5 v6 v7 M1
    ) else
    f_Rule_countByMonths_76 O f (f_Rule_countByMonths_46 O f n) v0 v1 v2 v3 v5 (v6 + (1 : Int32)) v7 M1
set_option maxRecDepth 20000 in
theorem k_f_Rule_countByMonths_46 (O : Nat → Option va_E) (f d : Nat) : ∀ (n : Nat) (v0 : Nat) (v1 : Int32) (v2 : Int32) (v3 : Int32) (v5 : Int32) (v6 : Int32) (v7 : Int32) (M : xM), xZ oI O (d + 3) 96 46 [(0, .ref v0), (1, .int v1), (2, .int v2), (3, .int v3), (5, .int v5), (6, .int v6), (7, .int v7)] [] M (f_Rule_countByMonths_46 O f n v0 v1 v2 v3 v5 v6 v7 M) := by
  intro n
  induction n with
  | zero =>
    intro v0 v1 v2 v3 v5 v6 v7 M
    exact xZ.no
  | succ n ih =>
    intro v0 v1 v2 v3 v5 v6 v7 M
    unfold f_Rule_countByMonths_46
    refine xZ.adv (me := xm96) hP_96 2 (pc' := 50) (lv' := [(0, .ref v0), (1, .int v1), (2, .int v2), (3, .int v3), (5, .int v5), (6, .int v6), (7, .int v7)]) (st' := [.int v5, .int v7]) rfl ?_
    refine xZ.ic_gt (me := xm96) hP_96 rfl (fun h1 => ?_) (fun h1 => ?_)
    · skip
      refine xZ.adv (me := xm96) hP_96 1 (pc' := 87) (lv' := [(0, .ref v0), (1, .int v1), (2, .int v2), (3, .int v3), (5, .int v5), (6, .int v6), (7, .int v7)]) (st' := [.int v6]) rfl ?_
      exact xZ.reti (me := xm96) hP_96 rfl rfl
    · skip
      refine xZ.adv (me := xm96) hP_96 2 (pc' := 56) (lv' := [(0, .ref v0), (1, .int v1), (2, .int v2), (3, .int v3), (5, .int v5), (6, .int v6), (7, .int v7)]) (st' := [.int v7, .ref v0]) rfl ?_
      refine xZ.callv (κ := oI) (av := [.int v7]) (rest := []) (st' := fun x1 => [.int x1]) (k0 := v0) (me := xm96) hP_96 rfl (Or.inl rfl) ⟨rfl, by decide⟩ rfl rfl (Nat.le_of_ble_eq_true rfl) (by decide) hP_53 (Nat.le_of_ble_eq_true rfl) (fun _ => rfl) (k_f_Rule_dayInMonth O f (d + 0) v0 v7 M) (fun x1 M1 => ?_)
      refine xZ.adv (me := xm96) hP_96 3 (pc' := 64) (lv' := [(8, .int x1), (0, .ref v0), (1, .int v1), (2, .int v2), (3, .int v3), (5, .int v5), (6, .int v6), (7, .int v7)]) (st' := [.int v1, .int x1]) rfl ?_
      refine xZ.ic_lt (me := xm96) hP_96 rfl (fun h2 => ?_) (fun h2 => ?_)
      · skip
        exact xZ.sub (xsc (.tail _ (.head _)) (xsc (.tail _ (.tail _ (.head _))) (xsc (.tail _ (.tail _ (.tail _ (.head _)))) (xsc (.tail _ (.tail _ (.tail _ (.tail _ (.head _))))) (xsc (.tail _ (.tail _ (.tail _ (.tail _ (.tail _ (.head _)))))) (xsc (.tail _ (.tail _ (.tail _ (.tail _ (.tail _ (.tail _ (.head _))))))) (xsc (.tail _ (.tail _ (.tail _ (.tail _ (.tail _ (.tail _ (.tail _ (.head _)))))))) xsn))))))) (show ([8, 0, 1, 2, 3, 5, 6, 7] : List Nat).Nodup from by decide) (k_f_Rule_countByMonths_76 O f d (f_Rule_countByMonths_46 O f n) ih v0 v1 v2 v3 v5 v6 v7 M1)
      · skip
        refine xZ.adv (me := xm96) hP_96 2 (pc' := 70) (lv' := [(8, .int x1), (0, .ref v0), (1, .int v1), (2, .int v2), (3, .int v3), (5, .int v5), (6, .int v6), (7, .int v7)]) (st' := [.int v2, .int x1]) rfl ?_
        refine xZ.ic_gt (me := xm96) hP_96 rfl (fun h3 => ?_) (fun h3 => ?_)
        · skip
          exact xZ.sub (xsc (.tail _ (.head _)) (xsc (.tail _ (.tail _ (.head _))) (xsc (.tail _ (.tail _ (.tail _ (.head _)))) (xsc (.tail _ (.tail _ (.tail _ (.tail _ (.head _))))) (xsc (.tail _ (.tail _ (.tail _ (.tail _ (.tail _ (.head _)))))) (xsc (.tail _ (.tail _ (.tail _ (.tail _ (.tail _ (.tail _ (.head _))))))) (xsc (.tail _ (.tail _ (.tail _ (.tail _ (.tail _ (.tail _ (.tail _ (.head _)))))))) xsn))))))) (show ([8, 0, 1, 2, 3, 5, 6, 7] : List Nat).Nodup from by decide) (k_f_Rule_countByMonths_76 O f d (f_Rule_countByMonths_46 O f n) ih v0 v1 v2 v3 v5 v6 v7 M1)
        · skip
          refine xZ.adv (me := xm96) hP_96 1 (pc' := 76) (lv' := [(6, .int (v6 + (1 : Int32))), (8, .int x1), (0, .ref v0), (1, .int v1), (2, .int v2), (3, .int v3), (5, .int v5), (7, .int v7)]) (st' := []) rfl ?_
          exact xZ.sub (xsc (.tail _ (.tail _ (.head _))) (xsc (.tail _ (.tail _ (.tail _ (.head _)))) (xsc (.tail _ (.tail _ (.tail _ (.tail _ (.head _))))) (xsc (.tail _ (.tail _ (.tail _ (.tail _ (.tail _ (.head _)))))) (xsc (.tail _ (.tail _ (.tail _ (.tail _ (.tail _ (.tail _ (.head _))))))) (xsc (.head _) (xsc (.tail _ (.tail _ (.tail _ (.tail _ (.tail _ (.tail _ (.tail _ (.head _)))))))) xsn))))))) (show ([6, 8, 0, 1, 2, 3, 5, 7] : List Nat).Nodup from by decide) (k_f_Rule_countByMonths_76 O f d (f_Rule_countByMonths_46 O f n) ih v0 v1 v2 v3 v5 (v6 + (1 : Int32)) v7 M1)
def f_Rule_countByMonths (O : Nat → Option va_E) (f : Nat) (v0 : Nat) (v1 : Int32) (v2 : Int32) (M : xM) : Option (Int32 × xM) :=
  (isO O M v0 9).bind fun _ =>
  xcl (f_Rule_monthStep O f v0 M) fun x1 M1 =>
  xcl (f_Days_monthOf O f v1 M1) fun x2 M2 =>
  xcl (f_Days_monthOf O f v2 M2) fun x3 M3 =>
  if (1 : Int32) ≤ x1 then (
    (gI O M3 v0 9 0).bind fun x4 =>
    xcl (f_Days_monthOf O f x4 M3) fun x5 M4 =>
    xcl (f_Math_floorMod O f (x5 - x2) x1 M4) fun x6 M5 =>
    f_Rule_countByMonths_46 O f f v0 v1 v2 x1 x3 (0 : Int32) (x2 + x6) M5
  ) else
  some ((0 : Int32), M3)
set_option maxRecDepth 20000 in
theorem k_f_Rule_countByMonths (O : Nat → Option va_E) (f d : Nat) (v0 : Nat) (v1 : Int32) (v2 : Int32) (M : xM) : xZ oI O (d + 3) 96 0 [(0, .ref v0), (1, .int v1), (2, .int v2)] [] M (f_Rule_countByMonths O f v0 v1 v2 M) := by
  unfold f_Rule_countByMonths
  refine xZ.adv (me := xm96) hP_96 1 (pc' := 1) (lv' := [(0, .ref v0), (1, .int v1), (2, .int v2)]) (st' := [.ref v0]) rfl ?_
  refine xZ.callv (κ := oI) (av := []) (rest := []) (st' := fun x1 => [.int x1]) (k0 := v0) (me := xm96) hP_96 rfl (Or.inl rfl) ⟨rfl, by decide⟩ rfl rfl (Nat.le_of_ble_eq_true rfl) (by decide) hP_51 (Nat.le_of_ble_eq_true rfl) (fun _ => rfl) (k_f_Rule_monthStep O f (d + 1) v0 M) (fun x1 M1 => ?_)
  refine xZ.adv (me := xm96) hP_96 2 (pc' := 6) (lv' := [(3, .int x1), (0, .ref v0), (1, .int v1), (2, .int v2)]) (st' := [.int v1]) rfl ?_
  refine xZ.calls (κ := oI) (av := [.int v1]) (rest := []) (st' := fun x2 => [.int x2]) (me := xm96) hP_96 rfl rfl rfl (Nat.le_of_ble_eq_true rfl) (by decide) hP_52 (Nat.le_of_ble_eq_true rfl) (fun _ => rfl) (k_f_Days_monthOf O f (d + 2) v1 M1) (fun x2 M2 => ?_)
  refine xZ.adv (me := xm96) hP_96 2 (pc' := 12) (lv' := [(4, .int x2), (3, .int x1), (0, .ref v0), (1, .int v1), (2, .int v2)]) (st' := [.int v2]) rfl ?_
  refine xZ.calls (κ := oI) (av := [.int v2]) (rest := []) (st' := fun x3 => [.int x3]) (me := xm96) hP_96 rfl rfl rfl (Nat.le_of_ble_eq_true rfl) (by decide) hP_52 (Nat.le_of_ble_eq_true rfl) (fun _ => rfl) (k_f_Days_monthOf O f (d + 2) v2 M2) (fun x3 M3 => ?_)
  refine xZ.adv (me := xm96) hP_96 5 (pc' := 22) (lv' := [(6, .int (0 : Int32)), (5, .int x3), (4, .int x2), (3, .int x1), (0, .ref v0), (1, .int v1), (2, .int v2)]) (st' := [.int (1 : Int32), .int x1]) rfl ?_
  refine xZ.ic_ge (me := xm96) hP_96 rfl (fun h1 => ?_) (fun h1 => ?_)
  · skip
    refine xZ.adv (me := xm96) hP_96 2 (pc' := 30) (lv' := [(6, .int (0 : Int32)), (5, .int x3), (4, .int x2), (3, .int x1), (0, .ref v0), (1, .int v1), (2, .int v2)]) (st' := [.ref v0, .int x2]) rfl ?_
    refine xZ.k_gI (me := xm96) hP_96 rfl (fun x4 => ?_)
    refine xZ.calls (κ := oI) (av := [.int x4]) (rest := [.int x2]) (st' := fun x5 => [.int x5, .int x2]) (me := xm96) hP_96 rfl rfl rfl (Nat.le_of_ble_eq_true rfl) (by decide) hP_52 (Nat.le_of_ble_eq_true rfl) (fun _ => rfl) (k_f_Days_monthOf O f (d + 2) x4 M3) (fun x5 M4 => ?_)
    refine xZ.adv (me := xm96) hP_96 3 (pc' := 40) (lv' := [(6, .int (0 : Int32)), (5, .int x3), (4, .int x2), (3, .int x1), (0, .ref v0), (1, .int v1), (2, .int v2)]) (st' := [.int x1, .int (x5 - x2), .int x2]) rfl ?_
    refine xZ.calls (κ := oI) (av := [.int (x5 - x2), .int x1]) (rest := [.int x2]) (st' := fun x6 => [.int x6, .int x2]) (me := xm96) hP_96 rfl rfl rfl (Nat.le_of_ble_eq_true rfl) (by decide) hP_250 (Nat.le_of_ble_eq_true rfl) (fun _ => rfl) (k_f_Math_floorMod O f (d + 2) (x5 - x2) x1 M4) (fun x6 M5 => ?_)
    refine xZ.adv (me := xm96) hP_96 2 (pc' := 46) (lv' := [(7, .int (x2 + x6)), (6, .int (0 : Int32)), (5, .int x3), (4, .int x2), (3, .int x1), (0, .ref v0), (1, .int v1), (2, .int v2)]) (st' := []) rfl ?_
    exact xZ.sub (xsc (.tail _ (.tail _ (.tail _ (.tail _ (.tail _ (.head _)))))) (xsc (.tail _ (.tail _ (.tail _ (.tail _ (.tail _ (.tail _ (.head _))))))) (xsc (.tail _ (.tail _ (.tail _ (.tail _ (.tail _ (.tail _ (.tail _ (.head _)))))))) (xsc (.tail _ (.tail _ (.tail _ (.tail _ (.head _))))) (xsc (.tail _ (.tail _ (.head _))) (xsc (.tail _ (.head _)) (xsc (.head _) xsn))))))) (show ([7, 6, 5, 4, 3, 0, 1, 2] : List Nat).Nodup from by decide) (k_f_Rule_countByMonths_46 O f d f v0 v1 v2 x1 x3 (0 : Int32) (x2 + x6) M5)
  · skip
    refine xZ.adv (me := xm96) hP_96 1 (pc' := 26) (lv' := [(6, .int (0 : Int32)), (5, .int x3), (4, .int x2), (3, .int x1), (0, .ref v0), (1, .int v1), (2, .int v2)]) (st' := [.int (0 : Int32)]) rfl ?_
    exact xZ.reti (me := xm96) hP_96 rfl rfl
def f_Math_floorDiv (O : Nat → Option va_E) (f : Nat) (v0 : Int32) (v1 : Int32) (M : xM) : Option (Int32 × xM) :=
  if v1 = 0 then none else xlet (v0 / v1) fun x1 =>
  if 0 ≤ (v0 ^^^ v1) then (
    some (x1, M)
  ) else
  if (x1 * v1) = v0 then (
    some (x1, M)
  ) else
  some ((x1 - (1 : Int32)), M)
set_option maxRecDepth 20000 in
theorem k_f_Math_floorDiv (O : Nat → Option va_E) (f d : Nat) (v0 : Int32) (v1 : Int32) (M : xM) : xZ oI O (d + 0) 251 0 [(0, .int v0), (1, .int v1)] [] M (f_Math_floorDiv O f v0 v1 M) := by
  unfold f_Math_floorDiv
  refine xZ.adv (me := xm251) hP_251 2 (pc' := 2) (lv' := [(0, .int v0), (1, .int v1)]) (st' := [.int v1, .int v0]) rfl ?_
  refine xZ.div (me := xm251) hP_251 rfl (fun x1 => ?_)
  refine xZ.adv (me := xm251) hP_251 4 (pc' := 7) (lv' := [(2, .int x1), (0, .int v0), (1, .int v1)]) (st' := [.int (v0 ^^^ v1)]) rfl ?_
  refine xZ.if_ge (me := xm251) hP_251 rfl (fun h1 => ?_) (fun h1 => ?_)
  · skip
    refine xZ.adv (me := xm251) hP_251 1 (pc' := 22) (lv' := [(2, .int x1), (0, .int v0), (1, .int v1)]) (st' := [.int x1]) rfl ?_
    exact xZ.reti (me := xm251) hP_251 rfl rfl
  · skip
    refine xZ.adv (me := xm251) hP_251 4 (pc' := 14) (lv' := [(2, .int x1), (0, .int v0), (1, .int v1)]) (st' := [.int v0, .int (x1 * v1)]) rfl ?_
    refine xZ.ic_eq (me := xm251) hP_251 rfl (fun h2 => ?_) (fun h2 => ?_)
    · skip
      refine xZ.adv (me := xm251) hP_251 1 (pc' := 22) (lv' := [(2, .int x1), (0, .int v0), (1, .int v1)]) (st' := [.int x1]) rfl ?_
      exact xZ.reti (me := xm251) hP_251 rfl rfl
    · skip
      refine xZ.adv (me := xm251) hP_251 3 (pc' := 20) (lv' := [(2, .int x1), (0, .int v0), (1, .int v1)]) (st' := [.int (x1 - (1 : Int32))]) rfl ?_
      exact xZ.reti (me := xm251) hP_251 rfl rfl
def f_Rule_count_42 (O : Nat → Option va_E) (f : Nat) (v0 : Nat) (v3 : Int32) (M : xM) : Option (Int32 × xM) :=
  (gI O M v0 9 0).bind fun x1 =>
  if v3 = x1 then (
    some ((1 : Int32), M)
  ) else
  some ((0 : Int32), M)
set_option maxRecDepth 20000 in
theorem k_f_Rule_count_42 (O : Nat → Option va_E) (f d : Nat) (v0 : Nat) (v3 : Int32) (M : xM) : xZ oI O (d + 4) 94 42 [(0, .ref v0), (3, .int v3)] [] M (f_Rule_count_42 O f v0 v3 M) := by
  unfold f_Rule_count_42
  refine xZ.adv (me := xm94) hP_94 2 (pc' := 44) (lv' := [(0, .ref v0), (3, .int v3)]) (st' := [.ref v0, .int v3]) rfl ?_
  refine xZ.k_gI (me := xm94) hP_94 rfl (fun x1 => ?_)
  refine xZ.ic_ne (me := xm94) hP_94 rfl (fun h1 => ?_) (fun h1 => ?_)
  · skip
    refine xZ.adv (me := xm94) hP_94 2 (pc' := 55) (lv' := [(0, .ref v0), (3, .int v3)]) (st' := [.int (1 : Int32)]) rfl ?_
    exact xZ.reti (me := xm94) hP_94 rfl rfl
  · skip
    refine xZ.adv (me := xm94) hP_94 1 (pc' := 55) (lv' := [(0, .ref v0), (3, .int v3)]) (st' := [.int (0 : Int32)]) rfl ?_
    exact xZ.reti (me := xm94) hP_94 rfl rfl
def f_Rule_count (O : Nat → Option va_E) (f : Nat) (v0 : Nat) (v1 : Int32) (v2 : Int32) (M : xM) : Option (Int32 × xM) :=
  (gI O M v0 9 0).bind fun x1 =>
  xcl (f_Math_max O f v1 x1 M) fun x2 M1 =>
  (gI O M1 v0 9 7).bind fun x3 =>
  xcl (f_Math_min O f v2 x3 M1) fun x4 M2 =>
  if x2 ≤ x4 then (
    (gI O M2 v0 9 1).bind fun x5 =>
    if x5 = 0 then (
      f_Rule_count_42 O f v0 x2 M2
    ) else
    (gI O M2 v0 9 2).bind fun x6 =>
    if (1 : Int32) ≤ x6 then (
      (gI O M2 v0 9 1).bind fun x7 =>
      if x7 = (1 : Int32) then (
        (gI O M2 v0 9 0).bind fun x8 =>
        (gI O M2 v0 9 2).bind fun x9 =>
        xcl (f_Math_floorDiv O f (x4 - x8) x9 M2) fun x10 M3 =>
        (gI O M3 v0 9 0).bind fun x11 =>
        (gI O M3 v0 9 2).bind fun x12 =>
        xcl (f_Math_floorDiv O f ((x2 - (1 : Int32)) - x11) x12 M3) fun x13 M4 =>
        some ((x10 - x13), M4)
      ) else
      (gI O M2 v0 9 1).bind fun x14 =>
      if x14 = (2 : Int32) then (
        (isO O M2 v0 9).bind fun _ =>
        xcl (f_Rule_countByWeeks O f v0 x4 M2) fun x15 M5 =>
        (isO O M5 v0 9).bind fun _ =>
        xcl (f_Rule_countByWeeks O f v0 (x2 - (1 : Int32)) M5) fun x16 M6 =>
        some ((x15 - x16), M6)
      ) else
      (isO O M2 v0 9).bind fun _ =>
      xcl (f_Rule_countByMonths O f v0 x2 x4 M2) fun x17 M7 =>
      some (x17, M7)
    ) else
    f_Rule_count_42 O f v0 x2 M2
  ) else
  some ((0 : Int32), M2)
set_option maxRecDepth 20000 in
theorem k_f_Rule_count (O : Nat → Option va_E) (f d : Nat) (v0 : Nat) (v1 : Int32) (v2 : Int32) (M : xM) : xZ oI O (d + 4) 94 0 [(0, .ref v0), (1, .int v1), (2, .int v2)] [] M (f_Rule_count O f v0 v1 v2 M) := by
  unfold f_Rule_count
  refine xZ.adv (me := xm94) hP_94 2 (pc' := 2) (lv' := [(0, .ref v0), (1, .int v1), (2, .int v2)]) (st' := [.ref v0, .int v1]) rfl ?_
  refine xZ.k_gI (me := xm94) hP_94 rfl (fun x1 => ?_)
  refine xZ.calls (κ := oI) (av := [.int v1, .int x1]) (rest := []) (st' := fun x2 => [.int x2]) (me := xm94) hP_94 rfl rfl rfl (Nat.le_of_ble_eq_true rfl) (by decide) hP_247 (Nat.le_of_ble_eq_true rfl) (fun _ => rfl) (k_f_Math_max O f (d + 3) v1 x1 M) (fun x2 M1 => ?_)
  refine xZ.adv (me := xm94) hP_94 3 (pc' := 11) (lv' := [(3, .int x2), (0, .ref v0), (1, .int v1), (2, .int v2)]) (st' := [.ref v0, .int v2]) rfl ?_
  refine xZ.k_gI (me := xm94) hP_94 rfl (fun x3 => ?_)
  refine xZ.calls (κ := oI) (av := [.int v2, .int x3]) (rest := []) (st' := fun x4 => [.int x4]) (me := xm94) hP_94 rfl rfl rfl (Nat.le_of_ble_eq_true rfl) (by decide) hP_248 (Nat.le_of_ble_eq_true rfl) (fun _ => rfl) (k_f_Math_min O f (d + 3) v2 x3 M1) (fun x4 M2 => ?_)
  refine xZ.adv (me := xm94) hP_94 3 (pc' := 22) (lv' := [(4, .int x4), (3, .int x2), (0, .ref v0), (1, .int v1), (2, .int v2)]) (st' := [.int x4, .int x2]) rfl ?_
  refine xZ.ic_le (me := xm94) hP_94 rfl (fun h1 => ?_) (fun h1 => ?_)
  · skip
    refine xZ.adv (me := xm94) hP_94 1 (pc' := 28) (lv' := [(4, .int x4), (3, .int x2), (0, .ref v0), (1, .int v1), (2, .int v2)]) (st' := [.ref v0]) rfl ?_
    refine xZ.k_gI (me := xm94) hP_94 rfl (fun x5 => ?_)
    refine xZ.if_eq (me := xm94) hP_94 rfl (fun h2 => ?_) (fun h2 => ?_)
    · skip
      exact xZ.sub (xsc (.tail _ (.tail _ (.head _))) (xsc (.tail _ (.head _)) xsn)) (show ([4, 3, 0, 1, 2] : List Nat).Nodup from by decide) (k_f_Rule_count_42 O f d v0 x2 M2)
    · skip
      refine xZ.adv (me := xm94) hP_94 1 (pc' := 35) (lv' := [(4, .int x4), (3, .int x2), (0, .ref v0), (1, .int v1), (2, .int v2)]) (st' := [.ref v0]) rfl ?_
      refine xZ.k_gI (me := xm94) hP_94 rfl (fun x6 => ?_)
      refine xZ.adv (me := xm94) hP_94 1 (pc' := 39) (lv' := [(4, .int x4), (3, .int x2), (0, .ref v0), (1, .int v1), (2, .int v2)]) (st' := [.int (1 : Int32), .int x6]) rfl ?_
      refine xZ.ic_ge (me := xm94) hP_94 rfl (fun h3 => ?_) (fun h3 => ?_)
      · skip
        refine xZ.adv (me := xm94) hP_94 1 (pc' := 57) (lv' := [(4, .int x4), (3, .int x2), (0, .ref v0), (1, .int v1), (2, .int v2)]) (st' := [.ref v0]) rfl ?_
        refine xZ.k_gI (me := xm94) hP_94 rfl (fun x7 => ?_)
        refine xZ.adv (me := xm94) hP_94 1 (pc' := 61) (lv' := [(4, .int x4), (3, .int x2), (0, .ref v0), (1, .int v1), (2, .int v2)]) (st' := [.int (1 : Int32), .int x7]) rfl ?_
        refine xZ.ic_ne (me := xm94) hP_94 rfl (fun h4 => ?_) (fun h4 => ?_)
        · skip
          refine xZ.adv (me := xm94) hP_94 2 (pc' := 67) (lv' := [(4, .int x4), (3, .int x2), (0, .ref v0), (1, .int v1), (2, .int v2)]) (st' := [.ref v0, .int x4]) rfl ?_
          refine xZ.k_gI (me := xm94) hP_94 rfl (fun x8 => ?_)
          refine xZ.adv (me := xm94) hP_94 2 (pc' := 72) (lv' := [(4, .int x4), (3, .int x2), (0, .ref v0), (1, .int v1), (2, .int v2)]) (st' := [.ref v0, .int (x4 - x8)]) rfl ?_
          refine xZ.k_gI (me := xm94) hP_94 rfl (fun x9 => ?_)
          refine xZ.calls (κ := oI) (av := [.int (x4 - x8), .int x9]) (rest := []) (st' := fun x10 => [.int x10]) (me := xm94) hP_94 rfl rfl rfl (Nat.le_of_ble_eq_true rfl) (by decide) hP_251 (Nat.le_of_ble_eq_true rfl) (fun _ => rfl) (k_f_Math_floorDiv O f (d + 3) (x4 - x8) x9 M2) (fun x10 M3 => ?_)
          refine xZ.adv (me := xm94) hP_94 4 (pc' := 82) (lv' := [(4, .int x4), (3, .int x2), (0, .ref v0), (1, .int v1), (2, .int v2)]) (st' := [.ref v0, .int (x2 - (1 : Int32)), .int x10]) rfl ?_
          refine xZ.k_gI (me := xm94) hP_94 rfl (fun x11 => ?_)
          refine xZ.adv (me := xm94) hP_94 2 (pc' := 87) (lv' := [(4, .int x4), (3, .int x2), (0, .ref v0), (1, .int v1), (2, .int v2)]) (st' := [.ref v0, .int ((x2 - (1 : Int32)) - x11), .int x10]) rfl ?_
          refine xZ.k_gI (me := xm94) hP_94 rfl (fun x12 => ?_)
          refine xZ.calls (κ := oI) (av := [.int ((x2 - (1 : Int32)) - x11), .int x12]) (rest := [.int x10]) (st' := fun x13 => [.int x13, .int x10]) (me := xm94) hP_94 rfl rfl rfl (Nat.le_of_ble_eq_true rfl) (by decide) hP_251 (Nat.le_of_ble_eq_true rfl) (fun _ => rfl) (k_f_Math_floorDiv O f (d + 3) ((x2 - (1 : Int32)) - x11) x12 M3) (fun x13 M4 => ?_)
          refine xZ.adv (me := xm94) hP_94 1 (pc' := 94) (lv' := [(4, .int x4), (3, .int x2), (0, .ref v0), (1, .int v1), (2, .int v2)]) (st' := [.int (x10 - x13)]) rfl ?_
          exact xZ.reti (me := xm94) hP_94 rfl rfl
        · skip
          refine xZ.adv (me := xm94) hP_94 1 (pc' := 96) (lv' := [(4, .int x4), (3, .int x2), (0, .ref v0), (1, .int v1), (2, .int v2)]) (st' := [.ref v0]) rfl ?_
          refine xZ.k_gI (me := xm94) hP_94 rfl (fun x14 => ?_)
          refine xZ.adv (me := xm94) hP_94 1 (pc' := 100) (lv' := [(4, .int x4), (3, .int x2), (0, .ref v0), (1, .int v1), (2, .int v2)]) (st' := [.int (2 : Int32), .int x14]) rfl ?_
          refine xZ.ic_ne (me := xm94) hP_94 rfl (fun h5 => ?_) (fun h5 => ?_)
          · skip
            refine xZ.adv (me := xm94) hP_94 2 (pc' := 106) (lv' := [(4, .int x4), (3, .int x2), (0, .ref v0), (1, .int v1), (2, .int v2)]) (st' := [.int x4, .ref v0]) rfl ?_
            refine xZ.callv (κ := oI) (av := [.int x4]) (rest := []) (st' := fun x15 => [.int x15]) (k0 := v0) (me := xm94) hP_94 rfl (Or.inl rfl) ⟨rfl, by decide⟩ rfl rfl (Nat.le_of_ble_eq_true rfl) (by decide) hP_95 (Nat.le_of_ble_eq_true rfl) (fun _ => rfl) (k_f_Rule_countByWeeks O f (d + 2) v0 x4 M2) (fun x15 M5 => ?_)
            refine xZ.adv (me := xm94) hP_94 4 (pc' := 113) (lv' := [(4, .int x4), (3, .int x2), (0, .ref v0), (1, .int v1), (2, .int v2)]) (st' := [.int (x2 - (1 : Int32)), .ref v0, .int x15]) rfl ?_
            refine xZ.callv (κ := oI) (av := [.int (x2 - (1 : Int32))]) (rest := [.int x15]) (st' := fun x16 => [.int x16, .int x15]) (k0 := v0) (me := xm94) hP_94 rfl (Or.inl rfl) ⟨rfl, by decide⟩ rfl rfl (Nat.le_of_ble_eq_true rfl) (by decide) hP_95 (Nat.le_of_ble_eq_true rfl) (fun _ => rfl) (k_f_Rule_countByWeeks O f (d + 2) v0 (x2 - (1 : Int32)) M5) (fun x16 M6 => ?_)
            refine xZ.adv (me := xm94) hP_94 1 (pc' := 117) (lv' := [(4, .int x4), (3, .int x2), (0, .ref v0), (1, .int v1), (2, .int v2)]) (st' := [.int (x15 - x16)]) rfl ?_
            exact xZ.reti (me := xm94) hP_94 rfl rfl
          · skip
            refine xZ.adv (me := xm94) hP_94 3 (pc' := 122) (lv' := [(4, .int x4), (3, .int x2), (0, .ref v0), (1, .int v1), (2, .int v2)]) (st' := [.int x4, .int x2, .ref v0]) rfl ?_
            refine xZ.callv (κ := oI) (av := [.int x2, .int x4]) (rest := []) (st' := fun x17 => [.int x17]) (k0 := v0) (me := xm94) hP_94 rfl (Or.inl rfl) ⟨rfl, by decide⟩ rfl rfl (Nat.le_of_ble_eq_true rfl) (by decide) hP_96 (Nat.le_of_ble_eq_true rfl) (fun _ => rfl) (k_f_Rule_countByMonths O f (d + 0) v0 x2 x4 M2) (fun x17 M7 => ?_)
            exact xZ.reti (me := xm94) hP_94 rfl rfl
      · skip
        exact xZ.sub (xsc (.tail _ (.tail _ (.head _))) (xsc (.tail _ (.head _)) xsn)) (show ([4, 3, 0, 1, 2] : List Nat).Nodup from by decide) (k_f_Rule_count_42 O f d v0 x2 M2)
  · skip
    refine xZ.adv (me := xm94) hP_94 1 (pc' := 26) (lv' := [(4, .int x4), (3, .int x2), (0, .ref v0), (1, .int v1), (2, .int v2)]) (st' := [.int (0 : Int32)]) rfl ?_
    exact xZ.reti (me := xm94) hP_94 rfl rfl
def f_Calendarhall_countDays (O : Nat → Option va_E) (f : Nat) (v0 : Nat) (v1 : Int32) (v2 : Int32) (v3 : Int32) (M : xM) : Option (Int32 × xM) :=
  (isO O M v0 12).bind fun _ =>
  xcl (f_Calendarhall_seriesNumbered O f v0 v1 M) fun x1 M1 =>
  xcl (f_Calendarhall_needDay O f v2 M1) fun _ M2 =>
  xcl (f_Calendarhall_needRange O f v3 v2 (146000 : Int32) M2) fun _ M3 =>
  (gR O M3 x1 10 6).bind fun x4 =>
  (isO O M3 x4 9).bind fun _ =>
  xcl (f_Rule_count O f x4 v2 v3 M3) fun x5 M4 =>
  some (x5, M4)
set_option maxRecDepth 20000 in
theorem k_f_Calendarhall_countDays (O : Nat → Option va_E) (f d : Nat) (v0 : Nat) (v1 : Int32) (v2 : Int32) (v3 : Int32) (M : xM) : xZ oI O (d + 5) 93 0 [(0, .ref v0), (1, .int v1), (2, .int v2), (3, .int v3)] [] M (f_Calendarhall_countDays O f v0 v1 v2 v3 M) := by
  unfold f_Calendarhall_countDays
  refine xZ.adv (me := xm93) hP_93 2 (pc' := 2) (lv' := [(0, .ref v0), (1, .int v1), (2, .int v2), (3, .int v3)]) (st' := [.int v1, .ref v0]) rfl ?_
  refine xZ.callv (κ := oR) (av := [.int v1]) (rest := []) (st' := fun x1 => [.ref x1]) (k0 := v0) (me := xm93) hP_93 rfl (Or.inl rfl) ⟨rfl, by decide⟩ rfl rfl (Nat.le_of_ble_eq_true rfl) (by decide) hP_79 (Nat.le_of_ble_eq_true rfl) (fun _ => rfl) (k_f_Calendarhall_seriesNumbered O f (d + 3) v0 v1 M) (fun x1 M1 => ?_)
  refine xZ.adv (me := xm93) hP_93 2 (pc' := 8) (lv' := [(4, .ref x1), (0, .ref v0), (1, .int v1), (2, .int v2), (3, .int v3)]) (st' := [.int v2]) rfl ?_
  refine xZ.calls (κ := oU) (av := [.int v2]) (rest := []) (st' := fun _ => []) (me := xm93) hP_93 rfl rfl rfl (Nat.le_of_ble_eq_true rfl) (by decide) hP_37 (Nat.le_of_ble_eq_true rfl) (fun _ => rfl) (k_f_Calendarhall_needDay O f (d + 4) v2 M1) (fun _ M2 => ?_)
  refine xZ.adv (me := xm93) hP_93 3 (pc' := 15) (lv' := [(4, .ref x1), (0, .ref v0), (1, .int v1), (2, .int v2), (3, .int v3)]) (st' := [.int (146000 : Int32), .int v2, .int v3]) rfl ?_
  refine xZ.calls (κ := oU) (av := [.int v3, .int v2, .int (146000 : Int32)]) (rest := []) (st' := fun _ => []) (me := xm93) hP_93 rfl rfl rfl (Nat.le_of_ble_eq_true rfl) (by decide) hP_22 (Nat.le_of_ble_eq_true rfl) (fun _ => rfl) (k_f_Calendarhall_needRange O f (d + 4) v3 v2 (146000 : Int32) M2) (fun _ M3 => ?_)
  refine xZ.adv (me := xm93) hP_93 1 (pc' := 20) (lv' := [(4, .ref x1), (0, .ref v0), (1, .int v1), (2, .int v2), (3, .int v3)]) (st' := [.ref x1]) rfl ?_
  refine xZ.k_gR (me := xm93) hP_93 rfl (fun x4 => ?_)
  refine xZ.adv (me := xm93) hP_93 2 (pc' := 25) (lv' := [(4, .ref x1), (0, .ref v0), (1, .int v1), (2, .int v2), (3, .int v3)]) (st' := [.int v3, .int v2, .ref x4]) rfl ?_
  refine xZ.callv (κ := oI) (av := [.int v2, .int v3]) (rest := []) (st' := fun x5 => [.int x5]) (k0 := x4) (me := xm93) hP_93 rfl (Or.inl rfl) ⟨rfl, by decide⟩ rfl rfl (Nat.le_of_ble_eq_true rfl) (by decide) hP_94 (Nat.le_of_ble_eq_true rfl) (fun _ => rfl) (k_f_Rule_count O f (d + 0) x4 v2 v3 M3) (fun x5 M4 => ?_)
  exact xZ.reti (me := xm93) hP_93 rfl rfl
def f_Rule_placeInSet_17 (O : Nat → Option va_E) (f : Nat) : Nat → Nat → Int32 → Int32 → Int32 → Int32 → Int32 → xM → Option (Int32 × xM)
  | 0, _, _, _, _, _, _, _ => none
  | n + 1, v0, v1, v2, v3, v4, v5, M =>
    if (v2 - v2 / (7 : Int32) * (7 : Int32)) < v5 then (
      some (v4, M)
    ) else
    (gI O M v0 9 3).bind fun x1 =>
    xcl (f_Days_weekdayOf O f (v1 + (v3 * v5)) M) fun x2 M1 =>
    if ((x1 >>> (x2 &&& 31)) &&& (1 : Int32)) = (1 : Int32) then (
      f_Rule_placeInSet_17 O f n v0 v1 v2 v3 (v4 + (1 : Int32)) (v5 + (1 : Int32)) M1
    ) else
    f_Rule_placeInSet_17 O f n v0 v1 v2 v3 v4 (v5 + (1 : Int32)) M1
set_option maxRecDepth 20000 in
theorem k_f_Rule_placeInSet_17 (O : Nat → Option va_E) (f d : Nat) : ∀ (n : Nat) (v0 : Nat) (v1 : Int32) (v2 : Int32) (v3 : Int32) (v4 : Int32) (v5 : Int32) (M : xM), xZ oI O (d + 1) 101 17 [(0, .ref v0), (1, .int v1), (2, .int v2), (3, .int v3), (4, .int v4), (5, .int v5)] [] M (f_Rule_placeInSet_17 O f n v0 v1 v2 v3 v4 v5 M) := by
  intro n
  induction n with
  | zero =>
    intro v0 v1 v2 v3 v4 v5 M
    exact xZ.no
  | succ n ih =>
    intro v0 v1 v2 v3 v4 v5 M
    unfold f_Rule_placeInSet_17
    refine xZ.adv (me := xm101) hP_101 4 (pc' := 23) (lv' := [(0, .ref v0), (1, .int v1), (2, .int v2), (3, .int v3), (4, .int v4), (5, .int v5)]) (st' := [.int (v2 - v2 / (7 : Int32) * (7 : Int32)), .int v5]) rfl ?_
    refine xZ.ic_gt (me := xm101) hP_101 rfl (fun h1 => ?_) (fun h1 => ?_)
    · skip
      refine xZ.adv (me := xm101) hP_101 1 (pc' := 57) (lv' := [(0, .ref v0), (1, .int v1), (2, .int v2), (3, .int v3), (4, .int v4), (5, .int v5)]) (st' := [.int v4]) rfl ?_
      exact xZ.reti (me := xm101) hP_101 rfl rfl
    · skip
      refine xZ.adv (me := xm101) hP_101 1 (pc' := 27) (lv' := [(0, .ref v0), (1, .int v1), (2, .int v2), (3, .int v3), (4, .int v4), (5, .int v5)]) (st' := [.ref v0]) rfl ?_
      refine xZ.k_gI (me := xm101) hP_101 rfl (fun x1 => ?_)
      refine xZ.adv (me := xm101) hP_101 5 (pc' := 36) (lv' := [(0, .ref v0), (1, .int v1), (2, .int v2), (3, .int v3), (4, .int v4), (5, .int v5)]) (st' := [.int (v1 + (v3 * v5)), .int x1]) rfl ?_
      refine xZ.calls (κ := oI) (av := [.int (v1 + (v3 * v5))]) (rest := [.int x1]) (st' := fun x2 => [.int x2, .int x1]) (me := xm101) hP_101 rfl rfl rfl (Nat.le_of_ble_eq_true rfl) (by decide) hP_49 (Nat.le_of_ble_eq_true rfl) (fun _ => rfl) (k_f_Days_weekdayOf O f (d + 0) (v1 + (v3 * v5)) M) (fun x2 M1 => ?_)
      refine xZ.adv (me := xm101) hP_101 4 (pc' := 43) (lv' := [(0, .ref v0), (1, .int v1), (2, .int v2), (3, .int v3), (4, .int v4), (5, .int v5)]) (st' := [.int (1 : Int32), .int ((x1 >>> (x2 &&& 31)) &&& (1 : Int32))]) rfl ?_
      refine xZ.ic_ne (me := xm101) hP_101 rfl (fun h2 => ?_) (fun h2 => ?_)
      · skip
        refine xZ.adv (me := xm101) hP_101 3 (pc' := 17) (lv' := [(5, .int (v5 + (1 : Int32))), (4, .int (v4 + (1 : Int32))), (0, .ref v0), (1, .int v1), (2, .int v2), (3, .int v3)]) (st' := []) rfl ?_
        exact xZ.sub (xsc (.tail _ (.tail _ (.head _))) (xsc (.tail _ (.tail _ (.tail _ (.head _)))) (xsc (.tail _ (.tail _ (.tail _ (.tail _ (.head _))))) (xsc (.tail _ (.tail _ (.tail _ (.tail _ (.tail _ (.head _)))))) (xsc (.tail _ (.head _)) (xsc (.head _) xsn)))))) (show ([5, 4, 0, 1, 2, 3] : List Nat).Nodup from by decide) (ih v0 v1 v2 v3 (v4 + (1 : Int32)) (v5 + (1 : Int32)) M1)
      · skip
        refine xZ.adv (me := xm101) hP_101 2 (pc' := 17) (lv' := [(5, .int (v5 + (1 : Int32))), (0, .ref v0), (1, .int v1), (2, .int v2), (3, .int v3), (4, .int v4)]) (st' := []) rfl ?_
        exact xZ.sub (xsc (.tail _ (.head _)) (xsc (.tail _ (.tail _ (.head _))) (xsc (.tail _ (.tail _ (.tail _ (.head _)))) (xsc (.tail _ (.tail _ (.tail _ (.tail _ (.head _))))) (xsc (.tail _ (.tail _ (.tail _ (.tail _ (.tail _ (.head _)))))) (xsc (.head _) xsn)))))) (show ([5, 0, 1, 2, 3, 4] : List Nat).Nodup from by decide) (ih v0 v1 v2 v3 v4 (v5 + (1 : Int32)) M1)
def f_Rule_placeInSet (O : Nat → Option va_E) (f : Nat) (v0 : Nat) (v1 : Int32) (v2 : Int32) (v3 : Int32) (M : xM) : Option (Int32 × xM) :=
  (gI O M v0 9 3).bind fun x1 =>
  xcl (f_Integer_bitCount O f x1 M) fun x2 M1 =>
  f_Rule_placeInSet_17 O f f v0 v1 v2 v3 ((v2 / (7 : Int32)) * x2) (0 : Int32) M1
set_option maxRecDepth 20000 in
theorem k_f_Rule_placeInSet (O : Nat → Option va_E) (f d : Nat) (v0 : Nat) (v1 : Int32) (v2 : Int32) (v3 : Int32) (M : xM) : xZ oI O (d + 1) 101 0 [(0, .ref v0), (1, .int v1), (2, .int v2), (3, .int v3)] [] M (f_Rule_placeInSet O f v0 v1 v2 v3 M) := by
  unfold f_Rule_placeInSet
  refine xZ.adv (me := xm101) hP_101 4 (pc' := 5) (lv' := [(0, .ref v0), (1, .int v1), (2, .int v2), (3, .int v3)]) (st' := [.ref v0, .int (v2 / (7 : Int32))]) rfl ?_
  refine xZ.k_gI (me := xm101) hP_101 rfl (fun x1 => ?_)
  refine xZ.calls (κ := oI) (av := [.int x1]) (rest := [.int (v2 / (7 : Int32))]) (st' := fun x2 => [.int x2, .int (v2 / (7 : Int32))]) (me := xm101) hP_101 rfl rfl rfl (Nat.le_of_ble_eq_true rfl) (by decide) hP_252 (Nat.le_of_ble_eq_true rfl) (fun _ => rfl) (k_f_Integer_bitCount O f (d + 0) x1 M) (fun x2 M1 => ?_)
  refine xZ.adv (me := xm101) hP_101 4 (pc' := 17) (lv' := [(5, .int (0 : Int32)), (4, .int ((v2 / (7 : Int32)) * x2)), (0, .ref v0), (1, .int v1), (2, .int v2), (3, .int v3)]) (st' := []) rfl ?_
  exact xZ.sub (xsc (.tail _ (.tail _ (.head _))) (xsc (.tail _ (.tail _ (.tail _ (.head _)))) (xsc (.tail _ (.tail _ (.tail _ (.tail _ (.head _))))) (xsc (.tail _ (.tail _ (.tail _ (.tail _ (.tail _ (.head _)))))) (xsc (.tail _ (.head _)) (xsc (.head _) xsn)))))) (show ([5, 4, 0, 1, 2, 3] : List Nat).Nodup from by decide) (k_f_Rule_placeInSet_17 O f d f v0 v1 v2 v3 ((v2 / (7 : Int32)) * x2) (0 : Int32) M1)
def f_Rule_holds_85 (O : Nat → Option va_E) (f : Nat) (v0 : Nat) (v1 : Int32) (s0 : Int32) (M : xM) : Option (Int32 × xM) :=
  (gI O M v0 9 1).bind fun x1 =>
  if x1 = (2 : Int32) then (
    if s0 = 0 then (
      some ((0 : Int32), M)
    ) else
    xcl (f_Days_weekOf O f v1 M) fun x2 M1 =>
    (gI O M1 v0 9 0).bind fun x3 =>
    xcl (f_Days_weekOf O f x3 M1) fun x4 M2 =>
    (gI O M2 v0 9 2).bind fun x5 =>
    if x5 = 0 then none else xlet ((x2 - x4) - (x2 - x4) / x5 * x5) fun x6 =>
    if x6 = 0 then (
      some ((1 : Int32), M2)
    ) else
    some ((0 : Int32), M2)
  ) else
  xcl (f_Days_monthOf O f v1 M) fun x7 M3 =>
  (gI O M3 v0 9 0).bind fun x8 =>
  xcl (f_Days_monthOf O f x8 M3) fun x9 M4 =>
  (isO O M4 v0 9).bind fun _ =>
  xcl (f_Rule_monthStep O f v0 M4) fun x10 M5 =>
  if x10 < (1 : Int32) then (
    some ((0 : Int32), M5)
  ) else
  if x10 = 0 then none else xlet ((x7 - x9) - (x7 - x9) / x10 * x10) fun x11 =>
  if x11 = 0 then (
    xcl (f_Days_monthBegin O f x7 M5) fun x12 M6 =>
    xcl (f_Days_monthLength O f x7 M6) fun x13 M7 =>
    xlet ((x13 - (1 : Int32)) - (v1 - x12)) fun x14 =>
    (gI O M7 v0 9 1).bind fun x15 =>
    if x15 = (5 : Int32) then (
      (gI O M7 v0 9 0).bind fun x16 =>
      xcl (f_Days_monthBegin O f x9 M7) fun x17 M8 =>
      if (v1 - x12) = (x16 - x17) then (
        some ((1 : Int32), M8)
      ) else
      some ((0 : Int32), M8)
    ) else
    (gI O M7 v0 9 1).bind fun x18 =>
    if x18 = (3 : Int32) then (
      (gI O M7 v0 9 4).bind fun x19 =>
      if x19 ≤ 0 then (
        (gI O M7 v0 9 4).bind fun x20 =>
        if (x14 + (1 : Int32)) = (-x20) then (
          some ((1 : Int32), M7)
        ) else
        some ((0 : Int32), M7)
      ) else
      (gI O M7 v0 9 4).bind fun x21 =>
      if ((v1 - x12) + (1 : Int32)) = x21 then (
        some ((1 : Int32), M7)
      ) else
      some ((0 : Int32), M7)
    ) else
    if s0 = 0 then (
      some ((0 : Int32), M7)
    ) else
    (gI O M7 v0 9 4).bind fun x22 =>
    if x22 ≤ 0 then (
      (isO O M7 v0 9).bind fun _ =>
      xcl (f_Rule_placeInSet O f v0 v1 x14 (1 : Int32) M7) fun x23 M9 =>
      (gI O M9 v0 9 4).bind fun x24 =>
      if x23 = (-x24) then (
        some ((1 : Int32), M9)
      ) else
      some ((0 : Int32), M9)
    ) else
    (isO O M7 v0 9).bind fun _ =>
    xcl (f_Rule_placeInSet O f v0 v1 (v1 - x12) (-1 : Int32) M7) fun x25 M10 =>
    (gI O M10 v0 9 4).bind fun x26 =>
    if x25 = x26 then (
      some ((1 : Int32), M10)
    ) else
    some ((0 : Int32), M10)
  ) else
  some ((0 : Int32), M5)
set_option maxRecDepth 20000 in
theorem k_f_Rule_holds_85 (O : Nat → Option va_E) (f d : Nat) (v0 : Nat) (v1 : Int32) (s0 : Int32) (M : xM) : xZ oI O (d + 2) 100 85 [(0, .ref v0), (1, .int v1)] [.int s0] M (f_Rule_holds_85 O f v0 v1 s0 M) := by
  unfold f_Rule_holds_85
  refine xZ.adv (me := xm100) hP_100 2 (pc' := 87) (lv' := [(2, .int s0), (0, .ref v0), (1, .int v1)]) (st' := [.ref v0]) rfl ?_
  refine xZ.k_gI (me := xm100) hP_100 rfl (fun x1 => ?_)
  refine xZ.adv (me := xm100) hP_100 1 (pc' := 91) (lv' := [(2, .int s0), (0, .ref v0), (1, .int v1)]) (st' := [.int (2 : Int32), .int x1]) rfl ?_
  refine xZ.ic_ne (me := xm100) hP_100 rfl (fun h1 => ?_) (fun h1 => ?_)
  · skip
    refine xZ.adv (me := xm100) hP_100 1 (pc' := 95) (lv' := [(2, .int s0), (0, .ref v0), (1, .int v1)]) (st' := [.int s0]) rfl ?_
    refine xZ.if_eq (me := xm100) hP_100 rfl (fun h2 => ?_) (fun h2 => ?_)
    · skip
      refine xZ.adv (me := xm100) hP_100 1 (pc' := 123) (lv' := [(2, .int s0), (0, .ref v0), (1, .int v1)]) (st' := [.int (0 : Int32)]) rfl ?_
      exact xZ.rete (me := xm100) hP_100 rfl rfl rfl
    · skip
      refine xZ.adv (me := xm100) hP_100 1 (pc' := 99) (lv' := [(2, .int s0), (0, .ref v0), (1, .int v1)]) (st' := [.int v1]) rfl ?_
      refine xZ.calls (κ := oI) (av := [.int v1]) (rest := []) (st' := fun x2 => [.int x2]) (me := xm100) hP_100 rfl rfl rfl (Nat.le_of_ble_eq_true rfl) (by decide) hP_47 (Nat.le_of_ble_eq_true rfl) (fun _ => rfl) (k_f_Days_weekOf O f (d + 1) v1 M) (fun x2 M1 => ?_)
      refine xZ.adv (me := xm100) hP_100 1 (pc' := 103) (lv' := [(2, .int s0), (0, .ref v0), (1, .int v1)]) (st' := [.ref v0, .int x2]) rfl ?_
      refine xZ.k_gI (me := xm100) hP_100 rfl (fun x3 => ?_)
      refine xZ.calls (κ := oI) (av := [.int x3]) (rest := [.int x2]) (st' := fun x4 => [.int x4, .int x2]) (me := xm100) hP_100 rfl rfl rfl (Nat.le_of_ble_eq_true rfl) (by decide) hP_47 (Nat.le_of_ble_eq_true rfl) (fun _ => rfl) (k_f_Days_weekOf O f (d + 1) x3 M1) (fun x4 M2 => ?_)
      refine xZ.adv (me := xm100) hP_100 2 (pc' := 111) (lv' := [(2, .int s0), (0, .ref v0), (1, .int v1)]) (st' := [.ref v0, .int (x2 - x4)]) rfl ?_
      refine xZ.k_gI (me := xm100) hP_100 rfl (fun x5 => ?_)
      refine xZ.rem (me := xm100) hP_100 rfl (fun x6 => ?_)
      refine xZ.if_ne (me := xm100) hP_100 rfl (fun h3 => ?_) (fun h3 => ?_)
      · skip
        refine xZ.adv (me := xm100) hP_100 2 (pc' := 123) (lv' := [(2, .int s0), (0, .ref v0), (1, .int v1)]) (st' := [.int (1 : Int32)]) rfl ?_
        exact xZ.rete (me := xm100) hP_100 rfl rfl rfl
      · skip
        refine xZ.adv (me := xm100) hP_100 1 (pc' := 123) (lv' := [(2, .int s0), (0, .ref v0), (1, .int v1)]) (st' := [.int (0 : Int32)]) rfl ?_
        exact xZ.rete (me := xm100) hP_100 rfl rfl rfl
  · skip
    refine xZ.adv (me := xm100) hP_100 1 (pc' := 125) (lv' := [(2, .int s0), (0, .ref v0), (1, .int v1)]) (st' := [.int v1]) rfl ?_
    refine xZ.calls (κ := oI) (av := [.int v1]) (rest := []) (st' := fun x7 => [.int x7]) (me := xm100) hP_100 rfl rfl rfl (Nat.le_of_ble_eq_true rfl) (by decide) hP_52 (Nat.le_of_ble_eq_true rfl) (fun _ => rfl) (k_f_Days_monthOf O f (d + 1) v1 M) (fun x7 M3 => ?_)
    refine xZ.adv (me := xm100) hP_100 2 (pc' := 130) (lv' := [(3, .int x7), (2, .int s0), (0, .ref v0), (1, .int v1)]) (st' := [.ref v0]) rfl ?_
    refine xZ.k_gI (me := xm100) hP_100 rfl (fun x8 => ?_)
    refine xZ.calls (κ := oI) (av := [.int x8]) (rest := []) (st' := fun x9 => [.int x9]) (me := xm100) hP_100 rfl rfl rfl (Nat.le_of_ble_eq_true rfl) (by decide) hP_52 (Nat.le_of_ble_eq_true rfl) (fun _ => rfl) (k_f_Days_monthOf O f (d + 1) x8 M3) (fun x9 M4 => ?_)
    refine xZ.adv (me := xm100) hP_100 2 (pc' := 139) (lv' := [(4, .int x9), (3, .int x7), (2, .int s0), (0, .ref v0), (1, .int v1)]) (st' := [.ref v0]) rfl ?_
    refine xZ.callv (κ := oI) (av := []) (rest := []) (st' := fun x10 => [.int x10]) (k0 := v0) (me := xm100) hP_100 rfl (Or.inl rfl) ⟨rfl, by decide⟩ rfl rfl (Nat.le_of_ble_eq_true rfl) (by decide) hP_51 (Nat.le_of_ble_eq_true rfl) (fun _ => rfl) (k_f_Rule_monthStep O f (d + 0) v0 M4) (fun x10 M5 => ?_)
    refine xZ.adv (me := xm100) hP_100 3 (pc' := 147) (lv' := [(5, .int x10), (4, .int x9), (3, .int x7), (2, .int s0), (0, .ref v0), (1, .int v1)]) (st' := [.int (1 : Int32), .int x10]) rfl ?_
    refine xZ.ic_lt (me := xm100) hP_100 rfl (fun h4 => ?_) (fun h4 => ?_)
    · skip
      refine xZ.adv (me := xm100) hP_100 1 (pc' := 161) (lv' := [(5, .int x10), (4, .int x9), (3, .int x7), (2, .int s0), (0, .ref v0), (1, .int v1)]) (st' := [.int (0 : Int32)]) rfl ?_
      exact xZ.rete (me := xm100) hP_100 rfl rfl rfl
    · skip
      refine xZ.adv (me := xm100) hP_100 4 (pc' := 156) (lv' := [(5, .int x10), (4, .int x9), (3, .int x7), (2, .int s0), (0, .ref v0), (1, .int v1)]) (st' := [.int x10, .int (x7 - x9)]) rfl ?_
      refine xZ.rem (me := xm100) hP_100 rfl (fun x11 => ?_)
      refine xZ.if_eq (me := xm100) hP_100 rfl (fun h5 => ?_) (fun h5 => ?_)
      · skip
        refine xZ.adv (me := xm100) hP_100 2 (pc' := 164) (lv' := [(5, .int x10), (4, .int x9), (3, .int x7), (2, .int s0), (0, .ref v0), (1, .int v1)]) (st' := [.int x7, .int v1]) rfl ?_
        refine xZ.calls (κ := oI) (av := [.int x7]) (rest := [.int v1]) (st' := fun x12 => [.int x12, .int v1]) (me := xm100) hP_100 rfl rfl rfl (Nat.le_of_ble_eq_true rfl) (by decide) hP_54 (Nat.le_of_ble_eq_true rfl) (fun _ => rfl) (k_f_Days_monthBegin O f (d + 1) x7 M5) (fun x12 M6 => ?_)
        refine xZ.adv (me := xm100) hP_100 3 (pc' := 171) (lv' := [(6, .int (v1 - x12)), (5, .int x10), (4, .int x9), (3, .int x7), (2, .int s0), (0, .ref v0), (1, .int v1)]) (st' := [.int x7]) rfl ?_
        refine xZ.calls (κ := oI) (av := [.int x7]) (rest := []) (st' := fun x13 => [.int x13]) (me := xm100) hP_100 rfl rfl rfl (Nat.le_of_ble_eq_true rfl) (by decide) hP_55 (Nat.le_of_ble_eq_true rfl) (fun _ => rfl) (k_f_Days_monthLength O f (d + 1) x7 M6) (fun x13 M7 => ?_)
        refine xZ.adv (me := xm100) hP_100 5 (pc' := 181) (lv' := [(7, .int ((x13 - (1 : Int32)) - (v1 - x12))), (6, .int (v1 - x12)), (5, .int x10), (4, .int x9), (3, .int x7), (2, .int s0), (0, .ref v0), (1, .int v1)]) (st' := []) rfl ?_
        refine xZ.letI (v := ((x13 - (1 : Int32)) - (v1 - x12))) (lvf := fun x14 => [(7, .int x14), (6, .int (v1 - x12)), (5, .int x10), (4, .int x9), (3, .int x7), (2, .int s0), (0, .ref v0), (1, .int v1)]) (stf := fun x14 => []) ?_
        intro x14
        refine xZ.adv (me := xm100) hP_100 1 (pc' := 182) (lv' := [(7, .int x14), (6, .int (v1 - x12)), (5, .int x10), (4, .int x9), (3, .int x7), (2, .int s0), (0, .ref v0), (1, .int v1)]) (st' := [.ref v0]) rfl ?_
        refine xZ.k_gI (me := xm100) hP_100 rfl (fun x15 => ?_)
        refine xZ.adv (me := xm100) hP_100 1 (pc' := 186) (lv' := [(7, .int x14), (6, .int (v1 - x12)), (5, .int x10), (4, .int x9), (3, .int x7), (2, .int s0), (0, .ref v0), (1, .int v1)]) (st' := [.int (5 : Int32), .int x15]) rfl ?_
        refine xZ.ic_ne (me := xm100) hP_100 rfl (fun h6 => ?_) (fun h6 => ?_)
        · skip
          refine xZ.adv (me := xm100) hP_100 2 (pc' := 192) (lv' := [(7, .int x14), (6, .int (v1 - x12)), (5, .int x10), (4, .int x9), (3, .int x7), (2, .int s0), (0, .ref v0), (1, .int v1)]) (st' := [.ref v0, .int (v1 - x12)]) rfl ?_
          refine xZ.k_gI (me := xm100) hP_100 rfl (fun x16 => ?_)
          refine xZ.adv (me := xm100) hP_100 1 (pc' := 197) (lv' := [(7, .int x14), (6, .int (v1 - x12)), (5, .int x10), (4, .int x9), (3, .int x7), (2, .int s0), (0, .ref v0), (1, .int v1)]) (st' := [.int x9, .int x16, .int (v1 - x12)]) rfl ?_
          refine xZ.calls (κ := oI) (av := [.int x9]) (rest := [.int x16, .int (v1 - x12)]) (st' := fun x17 => [.int x17, .int x16, .int (v1 - x12)]) (me := xm100) hP_100 rfl rfl rfl (Nat.le_of_ble_eq_true rfl) (by decide) hP_54 (Nat.le_of_ble_eq_true rfl) (fun _ => rfl) (k_f_Days_monthBegin O f (d + 1) x9 M7) (fun x17 M8 => ?_)
          refine xZ.adv (me := xm100) hP_100 1 (pc' := 201) (lv' := [(7, .int x14), (6, .int (v1 - x12)), (5, .int x10), (4, .int x9), (3, .int x7), (2, .int s0), (0, .ref v0), (1, .int v1)]) (st' := [.int (x16 - x17), .int (v1 - x12)]) rfl ?_
          refine xZ.ic_ne (me := xm100) hP_100 rfl (fun h7 => ?_) (fun h7 => ?_)
          · skip
            refine xZ.adv (me := xm100) hP_100 2 (pc' := 209) (lv' := [(7, .int x14), (6, .int (v1 - x12)), (5, .int x10), (4, .int x9), (3, .int x7), (2, .int s0), (0, .ref v0), (1, .int v1)]) (st' := [.int (1 : Int32)]) rfl ?_
            exact xZ.rete (me := xm100) hP_100 rfl rfl rfl
          · skip
            refine xZ.adv (me := xm100) hP_100 1 (pc' := 209) (lv' := [(7, .int x14), (6, .int (v1 - x12)), (5, .int x10), (4, .int x9), (3, .int x7), (2, .int s0), (0, .ref v0), (1, .int v1)]) (st' := [.int (0 : Int32)]) rfl ?_
            exact xZ.rete (me := xm100) hP_100 rfl rfl rfl
        · skip
          refine xZ.adv (me := xm100) hP_100 1 (pc' := 211) (lv' := [(7, .int x14), (6, .int (v1 - x12)), (5, .int x10), (4, .int x9), (3, .int x7), (2, .int s0), (0, .ref v0), (1, .int v1)]) (st' := [.ref v0]) rfl ?_
          refine xZ.k_gI (me := xm100) hP_100 rfl (fun x18 => ?_)
          refine xZ.adv (me := xm100) hP_100 1 (pc' := 215) (lv' := [(7, .int x14), (6, .int (v1 - x12)), (5, .int x10), (4, .int x9), (3, .int x7), (2, .int s0), (0, .ref v0), (1, .int v1)]) (st' := [.int (3 : Int32), .int x18]) rfl ?_
          refine xZ.ic_ne (me := xm100) hP_100 rfl (fun h8 => ?_) (fun h8 => ?_)
          · skip
            refine xZ.adv (me := xm100) hP_100 1 (pc' := 219) (lv' := [(7, .int x14), (6, .int (v1 - x12)), (5, .int x10), (4, .int x9), (3, .int x7), (2, .int s0), (0, .ref v0), (1, .int v1)]) (st' := [.ref v0]) rfl ?_
            refine xZ.k_gI (me := xm100) hP_100 rfl (fun x19 => ?_)
            refine xZ.if_le (me := xm100) hP_100 rfl (fun h9 => ?_) (fun h9 => ?_)
            · skip
              refine xZ.adv (me := xm100) hP_100 4 (pc' := 249) (lv' := [(7, .int x14), (6, .int (v1 - x12)), (5, .int x10), (4, .int x9), (3, .int x7), (2, .int s0), (0, .ref v0), (1, .int v1)]) (st' := [.ref v0, .int (x14 + (1 : Int32))]) rfl ?_
              refine xZ.k_gI (me := xm100) hP_100 rfl (fun x20 => ?_)
              refine xZ.adv (me := xm100) hP_100 1 (pc' := 253) (lv' := [(7, .int x14), (6, .int (v1 - x12)), (5, .int x10), (4, .int x9), (3, .int x7), (2, .int s0), (0, .ref v0), (1, .int v1)]) (st' := [.int (-x20), .int (x14 + (1 : Int32))]) rfl ?_
              refine xZ.ic_ne (me := xm100) hP_100 rfl (fun h10 => ?_) (fun h10 => ?_)
              · skip
                refine xZ.adv (me := xm100) hP_100 2 (pc' := 261) (lv' := [(7, .int x14), (6, .int (v1 - x12)), (5, .int x10), (4, .int x9), (3, .int x7), (2, .int s0), (0, .ref v0), (1, .int v1)]) (st' := [.int (1 : Int32)]) rfl ?_
                exact xZ.rete (me := xm100) hP_100 rfl rfl rfl
              · skip
                refine xZ.adv (me := xm100) hP_100 1 (pc' := 261) (lv' := [(7, .int x14), (6, .int (v1 - x12)), (5, .int x10), (4, .int x9), (3, .int x7), (2, .int s0), (0, .ref v0), (1, .int v1)]) (st' := [.int (0 : Int32)]) rfl ?_
                exact xZ.rete (me := xm100) hP_100 rfl rfl rfl
            · skip
              refine xZ.adv (me := xm100) hP_100 4 (pc' := 230) (lv' := [(7, .int x14), (6, .int (v1 - x12)), (5, .int x10), (4, .int x9), (3, .int x7), (2, .int s0), (0, .ref v0), (1, .int v1)]) (st' := [.ref v0, .int ((v1 - x12) + (1 : Int32))]) rfl ?_
              refine xZ.k_gI (me := xm100) hP_100 rfl (fun x21 => ?_)
              refine xZ.ic_ne (me := xm100) hP_100 rfl (fun h11 => ?_) (fun h11 => ?_)
              · skip
                refine xZ.adv (me := xm100) hP_100 2 (pc' := 261) (lv' := [(7, .int x14), (6, .int (v1 - x12)), (5, .int x10), (4, .int x9), (3, .int x7), (2, .int s0), (0, .ref v0), (1, .int v1)]) (st' := [.int (1 : Int32)]) rfl ?_
                exact xZ.rete (me := xm100) hP_100 rfl rfl rfl
              · skip
                refine xZ.adv (me := xm100) hP_100 2 (pc' := 261) (lv' := [(7, .int x14), (6, .int (v1 - x12)), (5, .int x10), (4, .int x9), (3, .int x7), (2, .int s0), (0, .ref v0), (1, .int v1)]) (st' := [.int (0 : Int32)]) rfl ?_
                exact xZ.rete (me := xm100) hP_100 rfl rfl rfl
          · skip
            refine xZ.adv (me := xm100) hP_100 1 (pc' := 263) (lv' := [(7, .int x14), (6, .int (v1 - x12)), (5, .int x10), (4, .int x9), (3, .int x7), (2, .int s0), (0, .ref v0), (1, .int v1)]) (st' := [.int s0]) rfl ?_
            refine xZ.if_eq (me := xm100) hP_100 rfl (fun h12 => ?_) (fun h12 => ?_)
            · skip
              refine xZ.adv (me := xm100) hP_100 1 (pc' := 312) (lv' := [(7, .int x14), (6, .int (v1 - x12)), (5, .int x10), (4, .int x9), (3, .int x7), (2, .int s0), (0, .ref v0), (1, .int v1)]) (st' := [.int (0 : Int32)]) rfl ?_
              exact xZ.rete (me := xm100) hP_100 rfl rfl rfl
            · skip
              refine xZ.adv (me := xm100) hP_100 1 (pc' := 267) (lv' := [(7, .int x14), (6, .int (v1 - x12)), (5, .int x10), (4, .int x9), (3, .int x7), (2, .int s0), (0, .ref v0), (1, .int v1)]) (st' := [.ref v0]) rfl ?_
              refine xZ.k_gI (me := xm100) hP_100 rfl (fun x22 => ?_)
              refine xZ.if_le (me := xm100) hP_100 rfl (fun h13 => ?_) (fun h13 => ?_)
              · skip
                refine xZ.adv (me := xm100) hP_100 4 (pc' := 296) (lv' := [(7, .int x14), (6, .int (v1 - x12)), (5, .int x10), (4, .int x9), (3, .int x7), (2, .int s0), (0, .ref v0), (1, .int v1)]) (st' := [.int (1 : Int32), .int x14, .int v1, .ref v0]) rfl ?_
                refine xZ.callv (κ := oI) (av := [.int v1, .int x14, .int (1 : Int32)]) (rest := []) (st' := fun x23 => [.int x23]) (k0 := v0) (me := xm100) hP_100 rfl (Or.inl rfl) ⟨rfl, by decide⟩ rfl rfl (Nat.le_of_ble_eq_true rfl) (by decide) hP_101 (Nat.le_of_ble_eq_true rfl) (fun _ => rfl) (k_f_Rule_placeInSet O f (d + 0) v0 v1 x14 (1 : Int32) M7) (fun x23 M9 => ?_)
                refine xZ.adv (me := xm100) hP_100 1 (pc' := 300) (lv' := [(7, .int x14), (6, .int (v1 - x12)), (5, .int x10), (4, .int x9), (3, .int x7), (2, .int s0), (0, .ref v0), (1, .int v1)]) (st' := [.ref v0, .int x23]) rfl ?_
                refine xZ.k_gI (me := xm100) hP_100 rfl (fun x24 => ?_)
                refine xZ.adv (me := xm100) hP_100 1 (pc' := 304) (lv' := [(7, .int x14), (6, .int (v1 - x12)), (5, .int x10), (4, .int x9), (3, .int x7), (2, .int s0), (0, .ref v0), (1, .int v1)]) (st' := [.int (-x24), .int x23]) rfl ?_
                refine xZ.ic_ne (me := xm100) hP_100 rfl (fun h14 => ?_) (fun h14 => ?_)
                · skip
                  refine xZ.adv (me := xm100) hP_100 2 (pc' := 312) (lv' := [(7, .int x14), (6, .int (v1 - x12)), (5, .int x10), (4, .int x9), (3, .int x7), (2, .int s0), (0, .ref v0), (1, .int v1)]) (st' := [.int (1 : Int32)]) rfl ?_
                  exact xZ.rete (me := xm100) hP_100 rfl rfl rfl
                · skip
                  refine xZ.adv (me := xm100) hP_100 1 (pc' := 312) (lv' := [(7, .int x14), (6, .int (v1 - x12)), (5, .int x10), (4, .int x9), (3, .int x7), (2, .int s0), (0, .ref v0), (1, .int v1)]) (st' := [.int (0 : Int32)]) rfl ?_
                  exact xZ.rete (me := xm100) hP_100 rfl rfl rfl
              · skip
                refine xZ.adv (me := xm100) hP_100 4 (pc' := 278) (lv' := [(7, .int x14), (6, .int (v1 - x12)), (5, .int x10), (4, .int x9), (3, .int x7), (2, .int s0), (0, .ref v0), (1, .int v1)]) (st' := [.int (-1 : Int32), .int (v1 - x12), .int v1, .ref v0]) rfl ?_
                refine xZ.callv (κ := oI) (av := [.int v1, .int (v1 - x12), .int (-1 : Int32)]) (rest := []) (st' := fun x25 => [.int x25]) (k0 := v0) (me := xm100) hP_100 rfl (Or.inl rfl) ⟨rfl, by decide⟩ rfl rfl (Nat.le_of_ble_eq_true rfl) (by decide) hP_101 (Nat.le_of_ble_eq_true rfl) (fun _ => rfl) (k_f_Rule_placeInSet O f (d + 0) v0 v1 (v1 - x12) (-1 : Int32) M7) (fun x25 M10 => ?_)
                refine xZ.adv (me := xm100) hP_100 1 (pc' := 282) (lv' := [(7, .int x14), (6, .int (v1 - x12)), (5, .int x10), (4, .int x9), (3, .int x7), (2, .int s0), (0, .ref v0), (1, .int v1)]) (st' := [.ref v0, .int x25]) rfl ?_
                refine xZ.k_gI (me := xm100) hP_100 rfl (fun x26 => ?_)
                refine xZ.ic_ne (me := xm100) hP_100 rfl (fun h15 => ?_) (fun h15 => ?_)
                · skip
                  refine xZ.adv (me := xm100) hP_100 3 (pc' := 312) (lv' := [(7, .int x14), (6, .int (v1 - x12)), (5, .int x10), (4, .int x9), (3, .int x7), (2, .int s0), (0, .ref v0), (1, .int v1)]) (st' := [.int (1 : Int32)]) rfl ?_
                  exact xZ.rete (me := xm100) hP_100 rfl rfl rfl
                · skip
                  refine xZ.adv (me := xm100) hP_100 1 (pc' := 312) (lv' := [(7, .int x14), (6, .int (v1 - x12)), (5, .int x10), (4, .int x9), (3, .int x7), (2, .int s0), (0, .ref v0), (1, .int v1)]) (st' := [.int (0 : Int32)]) rfl ?_
                  exact xZ.rete (me := xm100) hP_100 rfl rfl rfl
      · skip
        refine xZ.adv (me := xm100) hP_100 1 (pc' := 161) (lv' := [(5, .int x10), (4, .int x9), (3, .int x7), (2, .int s0), (0, .ref v0), (1, .int v1)]) (st' := [.int (0 : Int32)]) rfl ?_
        exact xZ.rete (me := xm100) hP_100 rfl rfl rfl
def f_Rule_holds_23 (O : Nat → Option va_E) (f : Nat) (v0 : Nat) (v1 : Int32) (M : xM) : Option (Int32 × xM) :=
  (gI O M v0 9 0).bind fun x1 =>
  if v1 = x1 then (
    some ((1 : Int32), M)
  ) else
  some ((0 : Int32), M)
set_option maxRecDepth 20000 in
theorem k_f_Rule_holds_23 (O : Nat → Option va_E) (f d : Nat) (v0 : Nat) (v1 : Int32) (M : xM) : xZ oI O (d + 2) 100 23 [(0, .ref v0), (1, .int v1)] [] M (f_Rule_holds_23 O f v0 v1 M) := by
  unfold f_Rule_holds_23
  refine xZ.adv (me := xm100) hP_100 2 (pc' := 25) (lv' := [(0, .ref v0), (1, .int v1)]) (st' := [.ref v0, .int v1]) rfl ?_
  refine xZ.k_gI (me := xm100) hP_100 rfl (fun x1 => ?_)
  refine xZ.ic_ne (me := xm100) hP_100 rfl (fun h1 => ?_) (fun h1 => ?_)
  · skip
    refine xZ.adv (me := xm100) hP_100 2 (pc' := 36) (lv' := [(0, .ref v0), (1, .int v1)]) (st' := [.int (1 : Int32)]) rfl ?_
    exact xZ.rete (me := xm100) hP_100 rfl rfl rfl
  · skip
    refine xZ.adv (me := xm100) hP_100 1 (pc' := 36) (lv' := [(0, .ref v0), (1, .int v1)]) (st' := [.int (0 : Int32)]) rfl ?_
    exact xZ.rete (me := xm100) hP_100 rfl rfl rfl
def f_Rule_holds (O : Nat → Option va_E) (f : Nat) (v0 : Nat) (v1 : Int32) (M : xM) : Option (Int32 × xM) :=
  (gI O M v0 9 0).bind fun x1 =>
  if v1 < x1 then (
    f_Rule_holds_23 O f v0 v1 M
  ) else
  (gI O M v0 9 1).bind fun x2 =>
  if x2 = 0 then (
    f_Rule_holds_23 O f v0 v1 M
  ) else
  (gI O M v0 9 2).bind fun x3 =>
  if (1 : Int32) ≤ x3 then (
    (gI O M v0 9 1).bind fun x4 =>
    if x4 = (1 : Int32) then (
      (gI O M v0 9 0).bind fun x5 =>
      (gI O M v0 9 2).bind fun x6 =>
      if x6 = 0 then none else xlet ((v1 - x5) - (v1 - x5) / x6 * x6) fun x7 =>
      if x7 = 0 then (
        some ((1 : Int32), M)
      ) else
      some ((0 : Int32), M)
    ) else
    (gI O M v0 9 3).bind fun x8 =>
    xcl (f_Days_weekdayOf O f v1 M) fun x9 M1 =>
    if ((x8 >>> (x9 &&& 31)) &&& (1 : Int32)) = (1 : Int32) then (
      f_Rule_holds_85 O f v0 v1 (1 : Int32) M1
    ) else
    f_Rule_holds_85 O f v0 v1 (0 : Int32) M1
  ) else
  f_Rule_holds_23 O f v0 v1 M
set_option maxRecDepth 20000 in
theorem k_f_Rule_holds (O : Nat → Option va_E) (f d : Nat) (v0 : Nat) (v1 : Int32) (M : xM) : xZ oI O (d + 2) 100 0 [(0, .ref v0), (1, .int v1)] [] M (f_Rule_holds O f v0 v1 M) := by
  unfold f_Rule_holds
  refine xZ.adv (me := xm100) hP_100 2 (pc' := 2) (lv' := [(0, .ref v0), (1, .int v1)]) (st' := [.ref v0, .int v1]) rfl ?_
  refine xZ.k_gI (me := xm100) hP_100 rfl (fun x1 => ?_)
  refine xZ.ic_lt (me := xm100) hP_100 rfl (fun h1 => ?_) (fun h1 => ?_)
  · skip
    exact (k_f_Rule_holds_23 O f d v0 v1 M)
  · skip
    refine xZ.adv (me := xm100) hP_100 1 (pc' := 9) (lv' := [(0, .ref v0), (1, .int v1)]) (st' := [.ref v0]) rfl ?_
    refine xZ.k_gI (me := xm100) hP_100 rfl (fun x2 => ?_)
    refine xZ.if_eq (me := xm100) hP_100 rfl (fun h2 => ?_) (fun h2 => ?_)
    · skip
      exact (k_f_Rule_holds_23 O f d v0 v1 M)
    · skip
      refine xZ.adv (me := xm100) hP_100 1 (pc' := 16) (lv' := [(0, .ref v0), (1, .int v1)]) (st' := [.ref v0]) rfl ?_
      refine xZ.k_gI (me := xm100) hP_100 rfl (fun x3 => ?_)
      refine xZ.adv (me := xm100) hP_100 1 (pc' := 20) (lv' := [(0, .ref v0), (1, .int v1)]) (st' := [.int (1 : Int32), .int x3]) rfl ?_
      refine xZ.ic_ge (me := xm100) hP_100 rfl (fun h3 => ?_) (fun h3 => ?_)
      · skip
        refine xZ.adv (me := xm100) hP_100 1 (pc' := 38) (lv' := [(0, .ref v0), (1, .int v1)]) (st' := [.ref v0]) rfl ?_
        refine xZ.k_gI (me := xm100) hP_100 rfl (fun x4 => ?_)
        refine xZ.adv (me := xm100) hP_100 1 (pc' := 42) (lv' := [(0, .ref v0), (1, .int v1)]) (st' := [.int (1 : Int32), .int x4]) rfl ?_
        refine xZ.ic_ne (me := xm100) hP_100 rfl (fun h4 => ?_) (fun h4 => ?_)
        · skip
          refine xZ.adv (me := xm100) hP_100 2 (pc' := 47) (lv' := [(0, .ref v0), (1, .int v1)]) (st' := [.ref v0, .int v1]) rfl ?_
          refine xZ.k_gI (me := xm100) hP_100 rfl (fun x5 => ?_)
          refine xZ.adv (me := xm100) hP_100 2 (pc' := 52) (lv' := [(0, .ref v0), (1, .int v1)]) (st' := [.ref v0, .int (v1 - x5)]) rfl ?_
          refine xZ.k_gI (me := xm100) hP_100 rfl (fun x6 => ?_)
          refine xZ.rem (me := xm100) hP_100 rfl (fun x7 => ?_)
          refine xZ.if_ne (me := xm100) hP_100 rfl (fun h5 => ?_) (fun h5 => ?_)
          · skip
            refine xZ.adv (me := xm100) hP_100 2 (pc' := 64) (lv' := [(0, .ref v0), (1, .int v1)]) (st' := [.int (1 : Int32)]) rfl ?_
            exact xZ.rete (me := xm100) hP_100 rfl rfl rfl
          · skip
            refine xZ.adv (me := xm100) hP_100 1 (pc' := 64) (lv' := [(0, .ref v0), (1, .int v1)]) (st' := [.int (0 : Int32)]) rfl ?_
            exact xZ.rete (me := xm100) hP_100 rfl rfl rfl
        · skip
          refine xZ.adv (me := xm100) hP_100 1 (pc' := 66) (lv' := [(0, .ref v0), (1, .int v1)]) (st' := [.ref v0]) rfl ?_
          refine xZ.k_gI (me := xm100) hP_100 rfl (fun x8 => ?_)
          refine xZ.adv (me := xm100) hP_100 1 (pc' := 70) (lv' := [(0, .ref v0), (1, .int v1)]) (st' := [.int v1, .int x8]) rfl ?_
          refine xZ.calls (κ := oI) (av := [.int v1]) (rest := [.int x8]) (st' := fun x9 => [.int x9, .int x8]) (me := xm100) hP_100 rfl rfl rfl (Nat.le_of_ble_eq_true rfl) (by decide) hP_49 (Nat.le_of_ble_eq_true rfl) (fun _ => rfl) (k_f_Days_weekdayOf O f (d + 1) v1 M) (fun x9 M1 => ?_)
          refine xZ.adv (me := xm100) hP_100 4 (pc' := 77) (lv' := [(0, .ref v0), (1, .int v1)]) (st' := [.int (1 : Int32), .int ((x8 >>> (x9 &&& 31)) &&& (1 : Int32))]) rfl ?_
          refine xZ.ic_ne (me := xm100) hP_100 rfl (fun h6 => ?_) (fun h6 => ?_)
          · skip
            refine xZ.adv (me := xm100) hP_100 2 (pc' := 85) (lv' := [(0, .ref v0), (1, .int v1)]) (st' := [.int (1 : Int32)]) rfl ?_
            exact (k_f_Rule_holds_85 O f d v0 v1 (1 : Int32) M1)
          · skip
            refine xZ.adv (me := xm100) hP_100 1 (pc' := 85) (lv' := [(0, .ref v0), (1, .int v1)]) (st' := [.int (0 : Int32)]) rfl ?_
            exact (k_f_Rule_holds_85 O f d v0 v1 (0 : Int32) M1)
      · skip
        exact (k_f_Rule_holds_23 O f d v0 v1 M)
def f_Rule_isDay (O : Nat → Option va_E) (f : Nat) (v0 : Nat) (v1 : Int32) (M : xM) : Option (Int32 × xM) :=
  (gI O M v0 9 0).bind fun x1 =>
  if v1 < x1 then (
    some ((0 : Int32), M)
  ) else
  (gI O M v0 9 7).bind fun x2 =>
  if x2 < v1 then (
    some ((0 : Int32), M)
  ) else
  (isO O M v0 9).bind fun _ =>
  xcl (f_Rule_holds O f v0 v1 M) fun x3 M1 =>
  if x3 = 0 then (
    some ((0 : Int32), M1)
  ) else
  some ((1 : Int32), M1)
set_option maxRecDepth 20000 in
theorem k_f_Rule_isDay (O : Nat → Option va_E) (f d : Nat) (v0 : Nat) (v1 : Int32) (M : xM) : xZ oI O (d + 3) 99 0 [(0, .ref v0), (1, .int v1)] [] M (f_Rule_isDay O f v0 v1 M) := by
  unfold f_Rule_isDay
  refine xZ.adv (me := xm99) hP_99 2 (pc' := 2) (lv' := [(0, .ref v0), (1, .int v1)]) (st' := [.ref v0, .int v1]) rfl ?_
  refine xZ.k_gI (me := xm99) hP_99 rfl (fun x1 => ?_)
  refine xZ.ic_lt (me := xm99) hP_99 rfl (fun h1 => ?_) (fun h1 => ?_)
  · skip
    refine xZ.adv (me := xm99) hP_99 1 (pc' := 29) (lv' := [(0, .ref v0), (1, .int v1)]) (st' := [.int (0 : Int32)]) rfl ?_
    exact xZ.rete (me := xm99) hP_99 rfl rfl rfl
  · skip
    refine xZ.adv (me := xm99) hP_99 2 (pc' := 10) (lv' := [(0, .ref v0), (1, .int v1)]) (st' := [.ref v0, .int v1]) rfl ?_
    refine xZ.k_gI (me := xm99) hP_99 rfl (fun x2 => ?_)
    refine xZ.ic_gt (me := xm99) hP_99 rfl (fun h2 => ?_) (fun h2 => ?_)
    · skip
      refine xZ.adv (me := xm99) hP_99 1 (pc' := 29) (lv' := [(0, .ref v0), (1, .int v1)]) (st' := [.int (0 : Int32)]) rfl ?_
      exact xZ.rete (me := xm99) hP_99 rfl rfl rfl
    · skip
      refine xZ.adv (me := xm99) hP_99 2 (pc' := 18) (lv' := [(0, .ref v0), (1, .int v1)]) (st' := [.int v1, .ref v0]) rfl ?_
      refine xZ.callv (κ := oI) (av := [.int v1]) (rest := []) (st' := fun x3 => [.int x3]) (k0 := v0) (me := xm99) hP_99 rfl (Or.inl rfl) ⟨rfl, by decide⟩ rfl rfl (Nat.le_of_ble_eq_true rfl) (by decide) hP_100 (Nat.le_of_ble_eq_true rfl) (fun _ => rfl) (k_f_Rule_holds O f (d + 0) v0 v1 M) (fun x3 M1 => ?_)
      refine xZ.if_eq (me := xm99) hP_99 rfl (fun h3 => ?_) (fun h3 => ?_)
      · skip
        refine xZ.adv (me := xm99) hP_99 1 (pc' := 29) (lv' := [(0, .ref v0), (1, .int v1)]) (st' := [.int (0 : Int32)]) rfl ?_
        exact xZ.rete (me := xm99) hP_99 rfl rfl rfl
      · skip
        refine xZ.adv (me := xm99) hP_99 2 (pc' := 29) (lv' := [(0, .ref v0), (1, .int v1)]) (st' := [.int (1 : Int32)]) rfl ?_
        exact xZ.rete (me := xm99) hP_99 rfl rfl rfl
def f_Hall_zoneOf (O : Nat → Option va_E) (f : Nat) (v0 : Nat) (v1 : Nat) (M : xM) : Option (Nat × xM) :=
  (gI O M v1 10 1).bind fun x1 =>
  (isO O M v0 4).bind fun _ =>
  xcl (f_Hall_anyZone O f v0 x1 M) fun x2 M1 =>
  some (x2, M1)
set_option maxRecDepth 20000 in
theorem k_f_Hall_zoneOf (O : Nat → Option va_E) (f d : Nat) (v0 : Nat) (v1 : Nat) (M : xM) : xZ oR O (d + 1) 102 0 [(0, .ref v0), (1, .ref v1)] [] M (f_Hall_zoneOf O f v0 v1 M) := by
  unfold f_Hall_zoneOf
  refine xZ.adv (me := xm102) hP_102 2 (pc' := 2) (lv' := [(0, .ref v0), (1, .ref v1)]) (st' := [.ref v1, .ref v0]) rfl ?_
  refine xZ.k_gI (me := xm102) hP_102 rfl (fun x1 => ?_)
  refine xZ.callv (κ := oR) (av := [.int x1]) (rest := []) (st' := fun x2 => [.ref x2]) (k0 := v0) (me := xm102) hP_102 rfl (Or.inl rfl) ⟨rfl, by decide⟩ rfl rfl (Nat.le_of_ble_eq_true rfl) (by decide) hP_21 (Nat.le_of_ble_eq_true rfl) (fun _ => rfl) (k_f_Hall_anyZone O f (d + 0) v0 x1 M) (fun x2 M1 => ?_)
  exact xZ.retr (me := xm102) hP_102 rfl rfl rfl
def f_Series_exceptionOf_2 (O : Nat → Option va_E) (f : Nat) : Nat → Nat → Int32 → Int32 → xM → Option (Int32 × xM)
  | 0, _, _, _, _ => none
  | n + 1, v0, v1, v2, M =>
    (gI O M v0 10 7).bind fun x1 =>
    if x1 ≤ v2 then (
      some ((-1 : Int32), M)
    ) else
    (gR O M v0 10 8).bind fun x2 =>
    (aN O M x2).bind fun x3 =>
    if x3 ≤ v2 then (
      some ((-1 : Int32), M)
    ) else
    (gR O M v0 10 8).bind fun x4 =>
    (aI O M x4 v2).bind fun x5 =>
    if x5 = v1 then (
      some (v2, M)
    ) else
    f_Series_exceptionOf_2 O f n v0 v1 (v2 + (1 : Int32)) M
set_option maxRecDepth 20000 in
theorem k_f_Series_exceptionOf_2 (O : Nat → Option va_E) (f d : Nat) : ∀ (n : Nat) (v0 : Nat) (v1 : Int32) (v2 : Int32) (M : xM), xZ oI O (d + 0) 104 2 [(0, .ref v0), (1, .int v1), (2, .int v2)] [] M (f_Series_exceptionOf_2 O f n v0 v1 v2 M) := by
  intro n
  induction n with
  | zero =>
    intro v0 v1 v2 M
    exact xZ.no
  | succ n ih =>
    intro v0 v1 v2 M
    unfold f_Series_exceptionOf_2
    refine xZ.adv (me := xm104) hP_104 2 (pc' := 4) (lv' := [(0, .ref v0), (1, .int v1), (2, .int v2)]) (st' := [.ref v0, .int v2]) rfl ?_
    refine xZ.k_gI (me := xm104) hP_104 rfl (fun x1 => ?_)
    refine xZ.ic_ge (me := xm104) hP_104 rfl (fun h1 => ?_) (fun h1 => ?_)
    · skip
      refine xZ.adv (me := xm104) hP_104 1 (pc' := 38) (lv' := [(0, .ref v0), (1, .int v1), (2, .int v2)]) (st' := [.int (-1 : Int32)]) rfl ?_
      exact xZ.reti (me := xm104) hP_104 rfl rfl
    · skip
      refine xZ.adv (me := xm104) hP_104 2 (pc' := 12) (lv' := [(0, .ref v0), (1, .int v1), (2, .int v2)]) (st' := [.ref v0, .int v2]) rfl ?_
      refine xZ.k_gR (me := xm104) hP_104 rfl (fun x2 => ?_)
      refine xZ.k_aN (me := xm104) hP_104 rfl (fun x3 => ?_)
      refine xZ.ic_ge (me := xm104) hP_104 rfl (fun h2 => ?_) (fun h2 => ?_)
      · skip
        refine xZ.adv (me := xm104) hP_104 1 (pc' := 38) (lv' := [(0, .ref v0), (1, .int v1), (2, .int v2)]) (st' := [.int (-1 : Int32)]) rfl ?_
        exact xZ.reti (me := xm104) hP_104 rfl rfl
      · skip
        refine xZ.adv (me := xm104) hP_104 1 (pc' := 20) (lv' := [(0, .ref v0), (1, .int v1), (2, .int v2)]) (st' := [.ref v0]) rfl ?_
        refine xZ.k_gR (me := xm104) hP_104 rfl (fun x4 => ?_)
        refine xZ.adv (me := xm104) hP_104 1 (pc' := 24) (lv' := [(0, .ref v0), (1, .int v1), (2, .int v2)]) (st' := [.int v2, .ref x4]) rfl ?_
        refine xZ.k_aI (me := xm104) hP_104 rfl (fun x5 => ?_)
        refine xZ.adv (me := xm104) hP_104 1 (pc' := 26) (lv' := [(0, .ref v0), (1, .int v1), (2, .int v2)]) (st' := [.int v1, .int x5]) rfl ?_
        refine xZ.ic_ne (me := xm104) hP_104 rfl (fun h3 => ?_) (fun h3 => ?_)
        · skip
          refine xZ.adv (me := xm104) hP_104 1 (pc' := 30) (lv' := [(0, .ref v0), (1, .int v1), (2, .int v2)]) (st' := [.int v2]) rfl ?_
          exact xZ.reti (me := xm104) hP_104 rfl rfl
        · skip
          refine xZ.adv (me := xm104) hP_104 2 (pc' := 2) (lv' := [(2, .int (v2 + (1 : Int32))), (0, .ref v0), (1, .int v1)]) (st' := []) rfl ?_
          exact xZ.sub (xsc (.tail _ (.head _)) (xsc (.tail _ (.tail _ (.head _))) (xsc (.head _) xsn))) (show ([2, 0, 1] : List Nat).Nodup from by decide) (ih v0 v1 (v2 + (1 : Int32)) M)
def f_Series_exceptionOf (O : Nat → Option va_E) (f : Nat) (v0 : Nat) (v1 : Int32) (M : xM) : Option (Int32 × xM) :=
  f_Series_exceptionOf_2 O f f v0 v1 (0 : Int32) M
set_option maxRecDepth 20000 in
theorem k_f_Series_exceptionOf (O : Nat → Option va_E) (f d : Nat) (v0 : Nat) (v1 : Int32) (M : xM) : xZ oI O (d + 0) 104 0 [(0, .ref v0), (1, .int v1)] [] M (f_Series_exceptionOf O f v0 v1 M) := by
  unfold f_Series_exceptionOf
  refine xZ.adv (me := xm104) hP_104 2 (pc' := 2) (lv' := [(2, .int (0 : Int32)), (0, .ref v0), (1, .int v1)]) (st' := []) rfl ?_
  exact xZ.sub (xsc (.tail _ (.head _)) (xsc (.tail _ (.tail _ (.head _))) (xsc (.head _) xsn))) (show ([2, 0, 1] : List Nat).Nodup from by decide) (k_f_Series_exceptionOf_2 O f d f v0 v1 (0 : Int32) M)
def f_Zone_switchIn_51 (O : Nat → Option va_E) (f : Nat) (v1 : Nat) (v3 : Int32) (M : xM) : Option (Int32 × xM) :=
  (aI O M v1 (3 : Int32)).bind fun x1 =>
  some (((v3 * (1440 : Int32)) + x1), M)
set_option maxRecDepth 20000 in
theorem k_f_Zone_switchIn_51 (O : Nat → Option va_E) (f d : Nat) (v1 : Nat) (v3 : Int32) (M : xM) : xZ oI O (d + 1) 107 51 [(1, .ref v1), (3, .int v3)] [] M (f_Zone_switchIn_51 O f v1 v3 M) := by
  unfold f_Zone_switchIn_51
  refine xZ.adv (me := xm107) hP_107 5 (pc' := 58) (lv' := [(1, .ref v1), (3, .int v3)]) (st' := [.int (3 : Int32), .ref v1, .int (v3 * (1440 : Int32))]) rfl ?_
  refine xZ.k_aI (me := xm107) hP_107 rfl (fun x1 => ?_)
  refine xZ.adv (me := xm107) hP_107 1 (pc' := 60) (lv' := [(1, .ref v1), (3, .int v3)]) (st' := [.int ((v3 * (1440 : Int32)) + x1)]) rfl ?_
  exact xZ.reti (me := xm107) hP_107 rfl rfl
def f_Zone_switchIn (O : Nat → Option va_E) (f : Nat) (v0 : Int32) (v1 : Nat) (M : xM) : Option (Int32 × xM) :=
  (aN O M v1).bind fun x1 =>
  if (4 : Int32) ≤ x1 then (
    xcl (f_Days_monthBegin O f v0 M) fun x2 M1 =>
    (aI O M1 v1 (2 : Int32)).bind fun x3 =>
    xcl (f_Math_floorMod O f ((x3 - x2) - (5 : Int32)) (7 : Int32) M1) fun x4 M2 =>
    (aI O M2 v1 (1 : Int32)).bind fun x5 =>
    xlet ((x2 + x4) + ((7 : Int32) * (x5 - (1 : Int32)))) fun x6 =>
    xcl (f_Days_monthLength O f v0 M2) fun x7 M3 =>
    if x6 < (x2 + x7) then (
      f_Zone_switchIn_51 O f v1 x6 M3
    ) else
    f_Zone_switchIn_51 O f v1 (x6 + (-7 : Int32)) M3
  ) else
  some ((1000000000 : Int32), M)
set_option maxRecDepth 20000 in
theorem k_f_Zone_switchIn (O : Nat → Option va_E) (f d : Nat) (v0 : Int32) (v1 : Nat) (M : xM) : xZ oI O (d + 1) 107 0 [(0, .int v0), (1, .ref v1)] [] M (f_Zone_switchIn O f v0 v1 M) := by
  unfold f_Zone_switchIn
  refine xZ.adv (me := xm107) hP_107 1 (pc' := 1) (lv' := [(0, .int v0), (1, .ref v1)]) (st' := [.ref v1]) rfl ?_
  refine xZ.k_aN (me := xm107) hP_107 rfl (fun x1 => ?_)
  refine xZ.adv (me := xm107) hP_107 1 (pc' := 3) (lv' := [(0, .int v0), (1, .ref v1)]) (st' := [.int (4 : Int32), .int x1]) rfl ?_
  refine xZ.ic_ge (me := xm107) hP_107 rfl (fun h1 => ?_) (fun h1 => ?_)
  · skip
    refine xZ.adv (me := xm107) hP_107 1 (pc' := 10) (lv' := [(0, .int v0), (1, .ref v1)]) (st' := [.int v0]) rfl ?_
    refine xZ.calls (κ := oI) (av := [.int v0]) (rest := []) (st' := fun x2 => [.int x2]) (me := xm107) hP_107 rfl rfl rfl (Nat.le_of_ble_eq_true rfl) (by decide) hP_54 (Nat.le_of_ble_eq_true rfl) (fun _ => rfl) (k_f_Days_monthBegin O f (d + 0) v0 M) (fun x2 M1 => ?_)
    refine xZ.adv (me := xm107) hP_107 4 (pc' := 17) (lv' := [(2, .int x2), (0, .int v0), (1, .ref v1)]) (st' := [.int (2 : Int32), .ref v1, .int x2]) rfl ?_
    refine xZ.k_aI (me := xm107) hP_107 rfl (fun x3 => ?_)
    refine xZ.adv (me := xm107) hP_107 5 (pc' := 24) (lv' := [(2, .int x2), (0, .int v0), (1, .ref v1)]) (st' := [.int (7 : Int32), .int ((x3 - x2) - (5 : Int32)), .int x2]) rfl ?_
    refine xZ.calls (κ := oI) (av := [.int ((x3 - x2) - (5 : Int32)), .int (7 : Int32)]) (rest := [.int x2]) (st' := fun x4 => [.int x4, .int x2]) (me := xm107) hP_107 rfl rfl rfl (Nat.le_of_ble_eq_true rfl) (by decide) hP_250 (Nat.le_of_ble_eq_true rfl) (fun _ => rfl) (k_f_Math_floorMod O f (d + 0) ((x3 - x2) - (5 : Int32)) (7 : Int32) M1) (fun x4 M2 => ?_)
    refine xZ.adv (me := xm107) hP_107 4 (pc' := 32) (lv' := [(2, .int x2), (0, .int v0), (1, .ref v1)]) (st' := [.int (1 : Int32), .ref v1, .int (7 : Int32), .int (x2 + x4)]) rfl ?_
    refine xZ.k_aI (me := xm107) hP_107 rfl (fun x5 => ?_)
    refine xZ.adv (me := xm107) hP_107 5 (pc' := 38) (lv' := [(3, .int ((x2 + x4) + ((7 : Int32) * (x5 - (1 : Int32))))), (2, .int x2), (0, .int v0), (1, .ref v1)]) (st' := []) rfl ?_
    refine xZ.letI (v := ((x2 + x4) + ((7 : Int32) * (x5 - (1 : Int32))))) (lvf := fun x6 => [(3, .int x6), (2, .int x2), (0, .int v0), (1, .ref v1)]) (stf := fun x6 => []) ?_
    intro x6
    refine xZ.adv (me := xm107) hP_107 3 (pc' := 41) (lv' := [(3, .int x6), (2, .int x2), (0, .int v0), (1, .ref v1)]) (st' := [.int v0, .int x2, .int x6]) rfl ?_
    refine xZ.calls (κ := oI) (av := [.int v0]) (rest := [.int x2, .int x6]) (st' := fun x7 => [.int x7, .int x2, .int x6]) (me := xm107) hP_107 rfl rfl rfl (Nat.le_of_ble_eq_true rfl) (by decide) hP_55 (Nat.le_of_ble_eq_true rfl) (fun _ => rfl) (k_f_Days_monthLength O f (d + 0) v0 M2) (fun x7 M3 => ?_)
    refine xZ.adv (me := xm107) hP_107 1 (pc' := 45) (lv' := [(3, .int x6), (2, .int x2), (0, .int v0), (1, .ref v1)]) (st' := [.int (x2 + x7), .int x6]) rfl ?_
    refine xZ.ic_lt (me := xm107) hP_107 rfl (fun h2 => ?_) (fun h2 => ?_)
    · skip
      exact xZ.sub (xsc (.tail _ (.tail _ (.tail _ (.head _)))) (xsc (.head _) xsn)) (show ([3, 2, 0, 1] : List Nat).Nodup from by decide) (k_f_Zone_switchIn_51 O f d v1 x6 M3)
    · skip
      refine xZ.adv (me := xm107) hP_107 1 (pc' := 51) (lv' := [(3, .int (x6 + (-7 : Int32))), (2, .int x2), (0, .int v0), (1, .ref v1)]) (st' := []) rfl ?_
      exact xZ.sub (xsc (.tail _ (.tail _ (.tail _ (.head _)))) (xsc (.head _) xsn)) (show ([3, 2, 0, 1] : List Nat).Nodup from by decide) (k_f_Zone_switchIn_51 O f d v1 (x6 + (-7 : Int32)) M3)
  · skip
    refine xZ.adv (me := xm107) hP_107 1 (pc' := 8) (lv' := [(0, .int v0), (1, .ref v1)]) (st' := [.int (1000000000 : Int32)]) rfl ?_
    exact xZ.reti (me := xm107) hP_107 rfl rfl
def f_Zone_isSummer_150 (O : Nat → Option va_E) (f : Nat) (s0 : Int32) (s1 : Int32) (M : xM) : Option (Int32 × xM) :=
  if s0 = s1 then (
    some ((1 : Int32), M)
  ) else
  some ((0 : Int32), M)
set_option maxRecDepth 20000 in
theorem k_f_Zone_isSummer_150 (O : Nat → Option va_E) (f d : Nat) (s0 : Int32) (s1 : Int32) (M : xM) : xZ oI O (d + 2) 106 150 [] [.int s1, .int s0] M (f_Zone_isSummer_150 O f s0 s1 M) := by
  unfold f_Zone_isSummer_150
  refine xZ.ic_ne (me := xm106) hP_106 rfl (fun h1 => ?_) (fun h1 => ?_)
  · skip
    refine xZ.adv (me := xm106) hP_106 2 (pc' := 158) (lv' := []) (st' := [.int (1 : Int32)]) rfl ?_
    exact xZ.rete (me := xm106) hP_106 rfl rfl rfl
  · skip
    refine xZ.adv (me := xm106) hP_106 1 (pc' := 158) (lv' := []) (st' := [.int (0 : Int32)]) rfl ?_
    exact xZ.rete (me := xm106) hP_106 rfl rfl rfl
def f_Zone_isSummer_126 (O : Nat → Option va_E) (f : Nat) (v0 : Nat) (s0 : Int32) (M : xM) : Option (Int32 × xM) :=
  (gR O M v0 11 2).bind fun x1 =>
  (aI O M x1 (0 : Int32)).bind fun x2 =>
  (gR O M v0 11 3).bind fun x3 =>
  (aI O M x3 (0 : Int32)).bind fun x4 =>
  if x4 ≤ x2 then (
    f_Zone_isSummer_150 O f s0 (0 : Int32) M
  ) else
  f_Zone_isSummer_150 O f s0 (1 : Int32) M
set_option maxRecDepth 20000 in
theorem k_f_Zone_isSummer_126 (O : Nat → Option va_E) (f d : Nat) (v0 : Nat) (s0 : Int32) (M : xM) : xZ oI O (d + 2) 106 126 [(0, .ref v0)] [.int s0] M (f_Zone_isSummer_126 O f v0 s0 M) := by
  unfold f_Zone_isSummer_126
  refine xZ.adv (me := xm106) hP_106 3 (pc' := 131) (lv' := [(4, .int s0), (0, .ref v0)]) (st' := [.ref v0, .int s0]) rfl ?_
  refine xZ.k_gR (me := xm106) hP_106 rfl (fun x1 => ?_)
  refine xZ.adv (me := xm106) hP_106 1 (pc' := 135) (lv' := [(4, .int s0), (0, .ref v0)]) (st' := [.int (0 : Int32), .ref x1, .int s0]) rfl ?_
  refine xZ.k_aI (me := xm106) hP_106 rfl (fun x2 => ?_)
  refine xZ.adv (me := xm106) hP_106 1 (pc' := 137) (lv' := [(4, .int s0), (0, .ref v0)]) (st' := [.ref v0, .int x2, .int s0]) rfl ?_
  refine xZ.k_gR (me := xm106) hP_106 rfl (fun x3 => ?_)
  refine xZ.adv (me := xm106) hP_106 1 (pc' := 141) (lv' := [(4, .int s0), (0, .ref v0)]) (st' := [.int (0 : Int32), .ref x3, .int x2, .int s0]) rfl ?_
  refine xZ.k_aI (me := xm106) hP_106 rfl (fun x4 => ?_)
  refine xZ.ic_ge (me := xm106) hP_106 rfl (fun h1 => ?_) (fun h1 => ?_)
  · skip
    refine xZ.adv (me := xm106) hP_106 1 (pc' := 150) (lv' := [(4, .int s0), (0, .ref v0)]) (st' := [.int (0 : Int32), .int s0]) rfl ?_
    exact xZ.sub xsn (show ([4, 0] : List Nat).Nodup from by decide) (k_f_Zone_isSummer_150 O f d s0 (0 : Int32) M)
  · skip
    refine xZ.adv (me := xm106) hP_106 2 (pc' := 150) (lv' := [(4, .int s0), (0, .ref v0)]) (st' := [.int (1 : Int32), .int s0]) rfl ?_
    exact xZ.sub xsn (show ([4, 0] : List Nat).Nodup from by decide) (k_f_Zone_isSummer_150 O f d s0 (1 : Int32) M)
def f_Zone_isSummer_125 (O : Nat → Option va_E) (f : Nat) (v0 : Nat) (M : xM) : Option (Int32 × xM) :=
  f_Zone_isSummer_126 O f v0 (0 : Int32) M
set_option maxRecDepth 20000 in
theorem k_f_Zone_isSummer_125 (O : Nat → Option va_E) (f d : Nat) (v0 : Nat) (M : xM) : xZ oI O (d + 2) 106 125 [(0, .ref v0)] [] M (f_Zone_isSummer_125 O f v0 M) := by
  unfold f_Zone_isSummer_125
  refine xZ.adv (me := xm106) hP_106 1 (pc' := 126) (lv' := [(0, .ref v0)]) (st' := [.int (0 : Int32)]) rfl ?_
  exact (k_f_Zone_isSummer_126 O f d v0 (0 : Int32) M)
def f_Zone_isSummer (O : Nat → Option va_E) (f : Nat) (v0 : Nat) (v1 : Int32) (M : xM) : Option (Int32 × xM) :=
  (gI O M v0 11 1).bind fun x1 =>
  if x1 = 0 then (
    some ((0 : Int32), M)
  ) else
  xcl (f_Math_floorDiv O f v1 (1440 : Int32) M) fun x2 M1 =>
  xcl (f_Days_monthOf O f x2 M1) fun x3 M2 =>
  xlet ((x3 - x3 / (12 : Int32) * (12 : Int32)) + (1 : Int32)) fun x4 =>
  (gR O M2 v0 11 2).bind fun x5 =>
  (aI O M2 x5 (0 : Int32)).bind fun x6 =>
  if x4 = x6 then (
    (gR O M2 v0 11 2).bind fun x7 =>
    xcl (f_Zone_switchIn O f x3 x7 M2) fun x8 M3 =>
    if v1 < x8 then (
      some ((0 : Int32), M3)
    ) else
    some ((1 : Int32), M3)
  ) else
  (gR O M2 v0 11 3).bind fun x9 =>
  (aI O M2 x9 (0 : Int32)).bind fun x10 =>
  if x4 = x10 then (
    (gR O M2 v0 11 3).bind fun x11 =>
    xcl (f_Zone_switchIn O f x3 x11 M2) fun x12 M4 =>
    if x12 ≤ v1 then (
      some ((0 : Int32), M4)
    ) else
    some ((1 : Int32), M4)
  ) else
  (gR O M2 v0 11 2).bind fun x13 =>
  (aI O M2 x13 (0 : Int32)).bind fun x14 =>
  (gR O M2 v0 11 3).bind fun x15 =>
  (aI O M2 x15 (0 : Int32)).bind fun x16 =>
  xcl (f_Math_min O f x14 x16 M2) fun x17 M5 =>
  if x4 ≤ x17 then (
    f_Zone_isSummer_125 O f v0 M5
  ) else
  (gR O M5 v0 11 2).bind fun x18 =>
  (aI O M5 x18 (0 : Int32)).bind fun x19 =>
  (gR O M5 v0 11 3).bind fun x20 =>
  (aI O M5 x20 (0 : Int32)).bind fun x21 =>
  xcl (f_Math_max O f x19 x21 M5) fun x22 M6 =>
  if x22 ≤ x4 then (
    f_Zone_isSummer_125 O f v0 M6
  ) else
  f_Zone_isSummer_126 O f v0 (1 : Int32) M6
set_option maxRecDepth 20000 in
theorem k_f_Zone_isSummer (O : Nat → Option va_E) (f d : Nat) (v0 : Nat) (v1 : Int32) (M : xM) : xZ oI O (d + 2) 106 0 [(0, .ref v0), (1, .int v1)] [] M (f_Zone_isSummer O f v0 v1 M) := by
  unfold f_Zone_isSummer
  refine xZ.adv (me := xm106) hP_106 1 (pc' := 1) (lv' := [(0, .ref v0), (1, .int v1)]) (st' := [.ref v0]) rfl ?_
  refine xZ.k_gI (me := xm106) hP_106 rfl (fun x1 => ?_)
  refine xZ.if_ne (me := xm106) hP_106 rfl (fun h1 => ?_) (fun h1 => ?_)
  · skip
    refine xZ.adv (me := xm106) hP_106 1 (pc' := 8) (lv' := [(0, .ref v0), (1, .int v1)]) (st' := [.int (0 : Int32)]) rfl ?_
    exact xZ.rete (me := xm106) hP_106 rfl rfl rfl
  · skip
    refine xZ.adv (me := xm106) hP_106 2 (pc' := 13) (lv' := [(0, .ref v0), (1, .int v1)]) (st' := [.int (1440 : Int32), .int v1]) rfl ?_
    refine xZ.calls (κ := oI) (av := [.int v1, .int (1440 : Int32)]) (rest := []) (st' := fun x2 => [.int x2]) (me := xm106) hP_106 rfl rfl rfl (Nat.le_of_ble_eq_true rfl) (by decide) hP_251 (Nat.le_of_ble_eq_true rfl) (fun _ => rfl) (k_f_Math_floorDiv O f (d + 1) v1 (1440 : Int32) M) (fun x2 M1 => ?_)
    refine xZ.calls (κ := oI) (av := [.int x2]) (rest := []) (st' := fun x3 => [.int x3]) (me := xm106) hP_106 rfl rfl rfl (Nat.le_of_ble_eq_true rfl) (by decide) hP_52 (Nat.le_of_ble_eq_true rfl) (fun _ => rfl) (k_f_Days_monthOf O f (d + 1) x2 M1) (fun x3 M2 => ?_)
    refine xZ.adv (me := xm106) hP_106 7 (pc' := 27) (lv' := [(3, .int ((x3 - x3 / (12 : Int32) * (12 : Int32)) + (1 : Int32))), (2, .int x3), (0, .ref v0), (1, .int v1)]) (st' := []) rfl ?_
    refine xZ.letI (v := ((x3 - x3 / (12 : Int32) * (12 : Int32)) + (1 : Int32))) (lvf := fun x4 => [(3, .int x4), (2, .int x3), (0, .ref v0), (1, .int v1)]) (stf := fun x4 => []) ?_
    intro x4
    refine xZ.adv (me := xm106) hP_106 2 (pc' := 29) (lv' := [(3, .int x4), (2, .int x3), (0, .ref v0), (1, .int v1)]) (st' := [.ref v0, .int x4]) rfl ?_
    refine xZ.k_gR (me := xm106) hP_106 rfl (fun x5 => ?_)
    refine xZ.adv (me := xm106) hP_106 1 (pc' := 33) (lv' := [(3, .int x4), (2, .int x3), (0, .ref v0), (1, .int v1)]) (st' := [.int (0 : Int32), .ref x5, .int x4]) rfl ?_
    refine xZ.k_aI (me := xm106) hP_106 rfl (fun x6 => ?_)
    refine xZ.ic_ne (me := xm106) hP_106 rfl (fun h2 => ?_) (fun h2 => ?_)
    · skip
      refine xZ.adv (me := xm106) hP_106 3 (pc' := 40) (lv' := [(3, .int x4), (2, .int x3), (0, .ref v0), (1, .int v1)]) (st' := [.ref v0, .int x3, .int v1]) rfl ?_
      refine xZ.k_gR (me := xm106) hP_106 rfl (fun x7 => ?_)
      refine xZ.calls (κ := oI) (av := [.int x3, .ref x7]) (rest := [.int v1]) (st' := fun x8 => [.int x8, .int v1]) (me := xm106) hP_106 rfl rfl rfl (Nat.le_of_ble_eq_true rfl) (by decide) hP_107 (Nat.le_of_ble_eq_true rfl) (fun _ => rfl) (k_f_Zone_switchIn O f (d + 0) x3 x7 M2) (fun x8 M3 => ?_)
      refine xZ.ic_lt (me := xm106) hP_106 rfl (fun h3 => ?_) (fun h3 => ?_)
      · skip
        refine xZ.adv (me := xm106) hP_106 1 (pc' := 54) (lv' := [(3, .int x4), (2, .int x3), (0, .ref v0), (1, .int v1)]) (st' := [.int (0 : Int32)]) rfl ?_
        exact xZ.rete (me := xm106) hP_106 rfl rfl rfl
      · skip
        refine xZ.adv (me := xm106) hP_106 2 (pc' := 54) (lv' := [(3, .int x4), (2, .int x3), (0, .ref v0), (1, .int v1)]) (st' := [.int (1 : Int32)]) rfl ?_
        exact xZ.rete (me := xm106) hP_106 rfl rfl rfl
    · skip
      refine xZ.adv (me := xm106) hP_106 2 (pc' := 57) (lv' := [(3, .int x4), (2, .int x3), (0, .ref v0), (1, .int v1)]) (st' := [.ref v0, .int x4]) rfl ?_
      refine xZ.k_gR (me := xm106) hP_106 rfl (fun x9 => ?_)
      refine xZ.adv (me := xm106) hP_106 1 (pc' := 61) (lv' := [(3, .int x4), (2, .int x3), (0, .ref v0), (1, .int v1)]) (st' := [.int (0 : Int32), .ref x9, .int x4]) rfl ?_
      refine xZ.k_aI (me := xm106) hP_106 rfl (fun x10 => ?_)
      refine xZ.ic_ne (me := xm106) hP_106 rfl (fun h4 => ?_) (fun h4 => ?_)
      · skip
        refine xZ.adv (me := xm106) hP_106 3 (pc' := 68) (lv' := [(3, .int x4), (2, .int x3), (0, .ref v0), (1, .int v1)]) (st' := [.ref v0, .int x3, .int v1]) rfl ?_
        refine xZ.k_gR (me := xm106) hP_106 rfl (fun x11 => ?_)
        refine xZ.calls (κ := oI) (av := [.int x3, .ref x11]) (rest := [.int v1]) (st' := fun x12 => [.int x12, .int v1]) (me := xm106) hP_106 rfl rfl rfl (Nat.le_of_ble_eq_true rfl) (by decide) hP_107 (Nat.le_of_ble_eq_true rfl) (fun _ => rfl) (k_f_Zone_switchIn O f (d + 0) x3 x11 M2) (fun x12 M4 => ?_)
        refine xZ.ic_ge (me := xm106) hP_106 rfl (fun h5 => ?_) (fun h5 => ?_)
        · skip
          refine xZ.adv (me := xm106) hP_106 1 (pc' := 82) (lv' := [(3, .int x4), (2, .int x3), (0, .ref v0), (1, .int v1)]) (st' := [.int (0 : Int32)]) rfl ?_
          exact xZ.rete (me := xm106) hP_106 rfl rfl rfl
        · skip
          refine xZ.adv (me := xm106) hP_106 2 (pc' := 82) (lv' := [(3, .int x4), (2, .int x3), (0, .ref v0), (1, .int v1)]) (st' := [.int (1 : Int32)]) rfl ?_
          exact xZ.rete (me := xm106) hP_106 rfl rfl rfl
      · skip
        refine xZ.adv (me := xm106) hP_106 2 (pc' := 85) (lv' := [(3, .int x4), (2, .int x3), (0, .ref v0), (1, .int v1)]) (st' := [.ref v0, .int x4]) rfl ?_
        refine xZ.k_gR (me := xm106) hP_106 rfl (fun x13 => ?_)
        refine xZ.adv (me := xm106) hP_106 1 (pc' := 89) (lv' := [(3, .int x4), (2, .int x3), (0, .ref v0), (1, .int v1)]) (st' := [.int (0 : Int32), .ref x13, .int x4]) rfl ?_
        refine xZ.k_aI (me := xm106) hP_106 rfl (fun x14 => ?_)
        refine xZ.adv (me := xm106) hP_106 1 (pc' := 91) (lv' := [(3, .int x4), (2, .int x3), (0, .ref v0), (1, .int v1)]) (st' := [.ref v0, .int x14, .int x4]) rfl ?_
        refine xZ.k_gR (me := xm106) hP_106 rfl (fun x15 => ?_)
        refine xZ.adv (me := xm106) hP_106 1 (pc' := 95) (lv' := [(3, .int x4), (2, .int x3), (0, .ref v0), (1, .int v1)]) (st' := [.int (0 : Int32), .ref x15, .int x14, .int x4]) rfl ?_
        refine xZ.k_aI (me := xm106) hP_106 rfl (fun x16 => ?_)
        refine xZ.calls (κ := oI) (av := [.int x14, .int x16]) (rest := [.int x4]) (st' := fun x17 => [.int x17, .int x4]) (me := xm106) hP_106 rfl rfl rfl (Nat.le_of_ble_eq_true rfl) (by decide) hP_248 (Nat.le_of_ble_eq_true rfl) (fun _ => rfl) (k_f_Math_min O f (d + 1) x14 x16 M2) (fun x17 M5 => ?_)
        refine xZ.ic_le (me := xm106) hP_106 rfl (fun h6 => ?_) (fun h6 => ?_)
        · skip
          exact xZ.sub (xsc (.tail _ (.tail _ (.head _))) xsn) (show ([3, 2, 0, 1] : List Nat).Nodup from by decide) (k_f_Zone_isSummer_125 O f d v0 M5)
        · skip
          refine xZ.adv (me := xm106) hP_106 2 (pc' := 104) (lv' := [(3, .int x4), (2, .int x3), (0, .ref v0), (1, .int v1)]) (st' := [.ref v0, .int x4]) rfl ?_
          refine xZ.k_gR (me := xm106) hP_106 rfl (fun x18 => ?_)
          refine xZ.adv (me := xm106) hP_106 1 (pc' := 108) (lv' := [(3, .int x4), (2, .int x3), (0, .ref v0), (1, .int v1)]) (st' := [.int (0 : Int32), .ref x18, .int x4]) rfl ?_
          refine xZ.k_aI (me := xm106) hP_106 rfl (fun x19 => ?_)
          refine xZ.adv (me := xm106) hP_106 1 (pc' := 110) (lv' := [(3, .int x4), (2, .int x3), (0, .ref v0), (1, .int v1)]) (st' := [.ref v0, .int x19, .int x4]) rfl ?_
          refine xZ.k_gR (me := xm106) hP_106 rfl (fun x20 => ?_)
          refine xZ.adv (me := xm106) hP_106 1 (pc' := 114) (lv' := [(3, .int x4), (2, .int x3), (0, .ref v0), (1, .int v1)]) (st' := [.int (0 : Int32), .ref x20, .int x19, .int x4]) rfl ?_
          refine xZ.k_aI (me := xm106) hP_106 rfl (fun x21 => ?_)
          refine xZ.calls (κ := oI) (av := [.int x19, .int x21]) (rest := [.int x4]) (st' := fun x22 => [.int x22, .int x4]) (me := xm106) hP_106 rfl rfl rfl (Nat.le_of_ble_eq_true rfl) (by decide) hP_247 (Nat.le_of_ble_eq_true rfl) (fun _ => rfl) (k_f_Math_max O f (d + 1) x19 x21 M5) (fun x22 M6 => ?_)
          refine xZ.ic_ge (me := xm106) hP_106 rfl (fun h7 => ?_) (fun h7 => ?_)
          · skip
            exact xZ.sub (xsc (.tail _ (.tail _ (.head _))) xsn) (show ([3, 2, 0, 1] : List Nat).Nodup from by decide) (k_f_Zone_isSummer_125 O f d v0 M6)
          · skip
            refine xZ.adv (me := xm106) hP_106 2 (pc' := 126) (lv' := [(3, .int x4), (2, .int x3), (0, .ref v0), (1, .int v1)]) (st' := [.int (1 : Int32)]) rfl ?_
            exact xZ.sub (xsc (.tail _ (.tail _ (.head _))) xsn) (show ([3, 2, 0, 1] : List Nat).Nodup from by decide) (k_f_Zone_isSummer_126 O f d v0 (1 : Int32) M6)
def f_Zone_commonOf (O : Nat → Option va_E) (f : Nat) (v0 : Nat) (v1 : Int32) (M : xM) : Option (Int32 × xM) :=
  (gI O M v0 11 1).bind fun x1 =>
  (isO O M v0 11).bind fun _ =>
  xcl (f_Zone_isSummer O f v0 (v1 - x1) M) fun x2 M1 =>
  if x2 = 0 then (
    (gI O M1 v0 11 0).bind fun x3 =>
    some ((v1 - x3), M1)
  ) else
  (gI O M1 v0 11 1).bind fun x4 =>
  (gI O M1 v0 11 0).bind fun x5 =>
  some (((v1 - x4) - x5), M1)
set_option maxRecDepth 20000 in
theorem k_f_Zone_commonOf (O : Nat → Option va_E) (f d : Nat) (v0 : Nat) (v1 : Int32) (M : xM) : xZ oI O (d + 3) 105 0 [(0, .ref v0), (1, .int v1)] [] M (f_Zone_commonOf O f v0 v1 M) := by
  unfold f_Zone_commonOf
  refine xZ.adv (me := xm105) hP_105 3 (pc' := 3) (lv' := [(0, .ref v0), (1, .int v1)]) (st' := [.ref v0, .int v1, .ref v0]) rfl ?_
  refine xZ.k_gI (me := xm105) hP_105 rfl (fun x1 => ?_)
  refine xZ.adv (me := xm105) hP_105 1 (pc' := 7) (lv' := [(0, .ref v0), (1, .int v1)]) (st' := [.int (v1 - x1), .ref v0]) rfl ?_
  refine xZ.callv (κ := oI) (av := [.int (v1 - x1)]) (rest := []) (st' := fun x2 => [.int x2]) (k0 := v0) (me := xm105) hP_105 rfl (Or.inl rfl) ⟨rfl, by decide⟩ rfl rfl (Nat.le_of_ble_eq_true rfl) (by decide) hP_106 (Nat.le_of_ble_eq_true rfl) (fun _ => rfl) (k_f_Zone_isSummer O f (d + 0) v0 (v1 - x1) M) (fun x2 M1 => ?_)
  refine xZ.if_eq (me := xm105) hP_105 rfl (fun h1 => ?_) (fun h1 => ?_)
  · skip
    refine xZ.adv (me := xm105) hP_105 2 (pc' := 29) (lv' := [(0, .ref v0), (1, .int v1)]) (st' := [.ref v0, .int v1]) rfl ?_
    refine xZ.k_gI (me := xm105) hP_105 rfl (fun x3 => ?_)
    refine xZ.adv (me := xm105) hP_105 1 (pc' := 33) (lv' := [(0, .ref v0), (1, .int v1)]) (st' := [.int (v1 - x3)]) rfl ?_
    exact xZ.reti (me := xm105) hP_105 rfl rfl
  · skip
    refine xZ.adv (me := xm105) hP_105 2 (pc' := 15) (lv' := [(0, .ref v0), (1, .int v1)]) (st' := [.ref v0, .int v1]) rfl ?_
    refine xZ.k_gI (me := xm105) hP_105 rfl (fun x4 => ?_)
    refine xZ.adv (me := xm105) hP_105 2 (pc' := 20) (lv' := [(0, .ref v0), (1, .int v1)]) (st' := [.ref v0, .int (v1 - x4)]) rfl ?_
    refine xZ.k_gI (me := xm105) hP_105 rfl (fun x5 => ?_)
    refine xZ.adv (me := xm105) hP_105 2 (pc' := 33) (lv' := [(0, .ref v0), (1, .int v1)]) (st' := [.int ((v1 - x4) - x5)]) rfl ?_
    exact xZ.reti (me := xm105) hP_105 rfl rfl
def f_Series_exceptionTo (O : Nat → Option va_E) (f : Nat) (v0 : Nat) (v1 : Int32) (M : xM) : Option (Int32 × xM) :=
  if v1 < 0 then (
    some ((-1 : Int32), M)
  ) else
  (gR O M v0 10 9).bind fun x1 =>
  (aN O M x1).bind fun x2 =>
  if x2 ≤ v1 then (
    some ((-1 : Int32), M)
  ) else
  (gR O M v0 10 9).bind fun x3 =>
  (aI O M x3 v1).bind fun x4 =>
  some (x4, M)
set_option maxRecDepth 20000 in
theorem k_f_Series_exceptionTo (O : Nat → Option va_E) (f d : Nat) (v0 : Nat) (v1 : Int32) (M : xM) : xZ oI O (d + 0) 108 0 [(0, .ref v0), (1, .int v1)] [] M (f_Series_exceptionTo O f v0 v1 M) := by
  unfold f_Series_exceptionTo
  refine xZ.adv (me := xm108) hP_108 1 (pc' := 1) (lv' := [(0, .ref v0), (1, .int v1)]) (st' := [.int v1]) rfl ?_
  refine xZ.if_lt (me := xm108) hP_108 rfl (fun h1 => ?_) (fun h1 => ?_)
  · skip
    refine xZ.adv (me := xm108) hP_108 1 (pc' := 23) (lv' := [(0, .ref v0), (1, .int v1)]) (st' := [.int (-1 : Int32)]) rfl ?_
    exact xZ.reti (me := xm108) hP_108 rfl rfl
  · skip
    refine xZ.adv (me := xm108) hP_108 2 (pc' := 6) (lv' := [(0, .ref v0), (1, .int v1)]) (st' := [.ref v0, .int v1]) rfl ?_
    refine xZ.k_gR (me := xm108) hP_108 rfl (fun x1 => ?_)
    refine xZ.k_aN (me := xm108) hP_108 rfl (fun x2 => ?_)
    refine xZ.ic_ge (me := xm108) hP_108 rfl (fun h2 => ?_) (fun h2 => ?_)
    · skip
      refine xZ.adv (me := xm108) hP_108 1 (pc' := 23) (lv' := [(0, .ref v0), (1, .int v1)]) (st' := [.int (-1 : Int32)]) rfl ?_
      exact xZ.reti (me := xm108) hP_108 rfl rfl
    · skip
      refine xZ.adv (me := xm108) hP_108 1 (pc' := 14) (lv' := [(0, .ref v0), (1, .int v1)]) (st' := [.ref v0]) rfl ?_
      refine xZ.k_gR (me := xm108) hP_108 rfl (fun x3 => ?_)
      refine xZ.adv (me := xm108) hP_108 1 (pc' := 18) (lv' := [(0, .ref v0), (1, .int v1)]) (st' := [.int v1, .ref x3]) rfl ?_
      refine xZ.k_aI (me := xm108) hP_108 rfl (fun x4 => ?_)
      refine xZ.adv (me := xm108) hP_108 1 (pc' := 23) (lv' := [(0, .ref v0), (1, .int v1)]) (st' := [.int x4]) rfl ?_
      exact xZ.reti (me := xm108) hP_108 rfl rfl
def f_Series_beginOf (O : Nat → Option va_E) (f : Nat) (v0 : Nat) (v1 : Nat) (v2 : Int32) (M : xM) : Option (Int32 × xM) :=
  (isO O M v0 10).bind fun _ =>
  xcl (f_Series_exceptionOf O f v0 v2 M) fun x1 M1 =>
  if x1 = (-1 : Int32) then (
    (gI O M1 v0 10 2).bind fun x2 =>
    (isO O M1 v1 11).bind fun _ =>
    xcl (f_Zone_commonOf O f v1 ((v2 * (1440 : Int32)) + x2) M1) fun x3 M2 =>
    some (x3, M2)
  ) else
  (isO O M1 v0 10).bind fun _ =>
  xcl (f_Series_exceptionTo O f v0 x1 M1) fun x4 M3 =>
  if x4 = (-1 : Int32) then (
    some ((-1 : Int32), M3)
  ) else
  (isO O M3 v1 11).bind fun _ =>
  xcl (f_Zone_commonOf O f v1 x4 M3) fun x5 M4 =>
  some (x5, M4)
set_option maxRecDepth 20000 in
theorem k_f_Series_beginOf (O : Nat → Option va_E) (f d : Nat) (v0 : Nat) (v1 : Nat) (v2 : Int32) (M : xM) : xZ oI O (d + 4) 103 0 [(0, .ref v0), (1, .ref v1), (2, .int v2)] [] M (f_Series_beginOf O f v0 v1 v2 M) := by
  unfold f_Series_beginOf
  refine xZ.adv (me := xm103) hP_103 2 (pc' := 2) (lv' := [(0, .ref v0), (1, .ref v1), (2, .int v2)]) (st' := [.int v2, .ref v0]) rfl ?_
  refine xZ.callv (κ := oI) (av := [.int v2]) (rest := []) (st' := fun x1 => [.int x1]) (k0 := v0) (me := xm103) hP_103 rfl (Or.inl rfl) ⟨rfl, by decide⟩ rfl rfl (Nat.le_of_ble_eq_true rfl) (by decide) hP_104 (Nat.le_of_ble_eq_true rfl) (fun _ => rfl) (k_f_Series_exceptionOf O f (d + 3) v0 v2 M) (fun x1 M1 => ?_)
  refine xZ.adv (me := xm103) hP_103 3 (pc' := 8) (lv' := [(3, .int x1), (0, .ref v0), (1, .ref v1), (2, .int v2)]) (st' := [.int (-1 : Int32), .int x1]) rfl ?_
  refine xZ.ic_ne (me := xm103) hP_103 rfl (fun h1 => ?_) (fun h1 => ?_)
  · skip
    refine xZ.adv (me := xm103) hP_103 5 (pc' := 18) (lv' := [(3, .int x1), (0, .ref v0), (1, .ref v1), (2, .int v2)]) (st' := [.ref v0, .int (v2 * (1440 : Int32)), .ref v1]) rfl ?_
    refine xZ.k_gI (me := xm103) hP_103 rfl (fun x2 => ?_)
    refine xZ.adv (me := xm103) hP_103 1 (pc' := 22) (lv' := [(3, .int x1), (0, .ref v0), (1, .ref v1), (2, .int v2)]) (st' := [.int ((v2 * (1440 : Int32)) + x2), .ref v1]) rfl ?_
    refine xZ.callv (κ := oI) (av := [.int ((v2 * (1440 : Int32)) + x2)]) (rest := []) (st' := fun x3 => [.int x3]) (k0 := v1) (me := xm103) hP_103 rfl (Or.inl rfl) ⟨rfl, by decide⟩ rfl rfl (Nat.le_of_ble_eq_true rfl) (by decide) hP_105 (Nat.le_of_ble_eq_true rfl) (fun _ => rfl) (k_f_Zone_commonOf O f (d + 0) v1 ((v2 * (1440 : Int32)) + x2) M1) (fun x3 M2 => ?_)
    exact xZ.reti (me := xm103) hP_103 rfl rfl
  · skip
    refine xZ.adv (me := xm103) hP_103 2 (pc' := 28) (lv' := [(3, .int x1), (0, .ref v0), (1, .ref v1), (2, .int v2)]) (st' := [.int x1, .ref v0]) rfl ?_
    refine xZ.callv (κ := oI) (av := [.int x1]) (rest := []) (st' := fun x4 => [.int x4]) (k0 := v0) (me := xm103) hP_103 rfl (Or.inl rfl) ⟨rfl, by decide⟩ rfl rfl (Nat.le_of_ble_eq_true rfl) (by decide) hP_108 (Nat.le_of_ble_eq_true rfl) (fun _ => rfl) (k_f_Series_exceptionTo O f (d + 3) v0 x1 M1) (fun x4 M3 => ?_)
    refine xZ.adv (me := xm103) hP_103 3 (pc' := 36) (lv' := [(4, .int x4), (3, .int x1), (0, .ref v0), (1, .ref v1), (2, .int v2)]) (st' := [.int (-1 : Int32), .int x4]) rfl ?_
    refine xZ.ic_ne (me := xm103) hP_103 rfl (fun h2 => ?_) (fun h2 => ?_)
    · skip
      refine xZ.adv (me := xm103) hP_103 2 (pc' := 49) (lv' := [(4, .int x4), (3, .int x1), (0, .ref v0), (1, .ref v1), (2, .int v2)]) (st' := [.int (-1 : Int32)]) rfl ?_
      exact xZ.reti (me := xm103) hP_103 rfl rfl
    · skip
      refine xZ.adv (me := xm103) hP_103 2 (pc' := 46) (lv' := [(4, .int x4), (3, .int x1), (0, .ref v0), (1, .ref v1), (2, .int v2)]) (st' := [.int x4, .ref v1]) rfl ?_
      refine xZ.callv (κ := oI) (av := [.int x4]) (rest := []) (st' := fun x5 => [.int x5]) (k0 := v1) (me := xm103) hP_103 rfl (Or.inl rfl) ⟨rfl, by decide⟩ rfl rfl (Nat.le_of_ble_eq_true rfl) (by decide) hP_105 (Nat.le_of_ble_eq_true rfl) (fun _ => rfl) (k_f_Zone_commonOf O f (d + 0) v1 x4 M3) (fun x5 M4 => ?_)
      exact xZ.reti (me := xm103) hP_103 rfl rfl
def f_Calendarhall_begin (O : Nat → Option va_E) (f : Nat) (v0 : Nat) (v1 : Int32) (v2 : Int32) (M : xM) : Option (Int32 × xM) :=
  (isO O M v0 12).bind fun _ =>
  xcl (f_Calendarhall_seriesNumbered O f v0 v1 M) fun x1 M1 =>
  (gR O M1 x1 10 6).bind fun x2 =>
  (isO O M1 x2 9).bind fun _ =>
  xcl (f_Rule_isDay O f x2 v2 M1) fun x3 M2 =>
  if x3 = 0 then (
    none
  ) else
  (gR O M2 v0 12 0).bind fun x4 =>
  (isO O M2 x4 4).bind fun _ =>
  xcl (f_Hall_zoneOf O f x4 x1 M2) fun x5 M3 =>
  (isO O M3 x1 10).bind fun _ =>
  xcl (f_Series_beginOf O f x1 x5 v2 M3) fun x6 M4 =>
  some (x6, M4)
set_option maxRecDepth 20000 in
theorem k_f_Calendarhall_begin (O : Nat → Option va_E) (f d : Nat) (v0 : Nat) (v1 : Int32) (v2 : Int32) (M : xM) : xZ oI O (d + 5) 98 0 [(0, .ref v0), (1, .int v1), (2, .int v2)] [] M (f_Calendarhall_begin O f v0 v1 v2 M) := by
  unfold f_Calendarhall_begin
  refine xZ.adv (me := xm98) hP_98 2 (pc' := 2) (lv' := [(0, .ref v0), (1, .int v1), (2, .int v2)]) (st' := [.int v1, .ref v0]) rfl ?_
  refine xZ.callv (κ := oR) (av := [.int v1]) (rest := []) (st' := fun x1 => [.ref x1]) (k0 := v0) (me := xm98) hP_98 rfl (Or.inl rfl) ⟨rfl, by decide⟩ rfl rfl (Nat.le_of_ble_eq_true rfl) (by decide) hP_79 (Nat.le_of_ble_eq_true rfl) (fun _ => rfl) (k_f_Calendarhall_seriesNumbered O f (d + 3) v0 v1 M) (fun x1 M1 => ?_)
  refine xZ.adv (me := xm98) hP_98 2 (pc' := 7) (lv' := [(3, .ref x1), (0, .ref v0), (1, .int v1), (2, .int v2)]) (st' := [.ref x1]) rfl ?_
  refine xZ.k_gR (me := xm98) hP_98 rfl (fun x2 => ?_)
  refine xZ.adv (me := xm98) hP_98 1 (pc' := 11) (lv' := [(3, .ref x1), (0, .ref v0), (1, .int v1), (2, .int v2)]) (st' := [.int v2, .ref x2]) rfl ?_
  refine xZ.callv (κ := oI) (av := [.int v2]) (rest := []) (st' := fun x3 => [.int x3]) (k0 := x2) (me := xm98) hP_98 rfl (Or.inl rfl) ⟨rfl, by decide⟩ rfl rfl (Nat.le_of_ble_eq_true rfl) (by decide) hP_99 (Nat.le_of_ble_eq_true rfl) (fun _ => rfl) (k_f_Rule_isDay O f (d + 1) x2 v2 M1) (fun x3 M2 => ?_)
  refine xZ.if_ne (me := xm98) hP_98 rfl (fun h1 => ?_) (fun h1 => ?_)
  · skip
    exact xZ.no
  · skip
    refine xZ.adv (me := xm98) hP_98 2 (pc' := 27) (lv' := [(3, .ref x1), (0, .ref v0), (1, .int v1), (2, .int v2)]) (st' := [.ref v0, .ref x1]) rfl ?_
    refine xZ.k_gR (me := xm98) hP_98 rfl (fun x4 => ?_)
    refine xZ.adv (me := xm98) hP_98 1 (pc' := 31) (lv' := [(3, .ref x1), (0, .ref v0), (1, .int v1), (2, .int v2)]) (st' := [.ref x1, .ref x4, .ref x1]) rfl ?_
    refine xZ.callv (κ := oR) (av := [.ref x1]) (rest := [.ref x1]) (st' := fun x5 => [.ref x5, .ref x1]) (k0 := x4) (me := xm98) hP_98 rfl (Or.inl rfl) ⟨rfl, by decide⟩ rfl rfl (Nat.le_of_ble_eq_true rfl) (by decide) hP_102 (Nat.le_of_ble_eq_true rfl) (fun _ => rfl) (k_f_Hall_zoneOf O f (d + 3) x4 x1 M2) (fun x5 M3 => ?_)
    refine xZ.adv (me := xm98) hP_98 1 (pc' := 35) (lv' := [(3, .ref x1), (0, .ref v0), (1, .int v1), (2, .int v2)]) (st' := [.int v2, .ref x5, .ref x1]) rfl ?_
    refine xZ.callv (κ := oI) (av := [.ref x5, .int v2]) (rest := []) (st' := fun x6 => [.int x6]) (k0 := x1) (me := xm98) hP_98 rfl (Or.inl rfl) ⟨rfl, by decide⟩ rfl rfl (Nat.le_of_ble_eq_true rfl) (by decide) hP_103 (Nat.le_of_ble_eq_true rfl) (fun _ => rfl) (k_f_Series_beginOf O f (d + 0) x1 x5 v2 M3) (fun x6 M4 => ?_)
    exact xZ.reti (me := xm98) hP_98 rfl rfl
def f_Series_hasPlaceFor (O : Nat → Option va_E) (f : Nat) (v0 : Nat) (v1 : Int32) (M : xM) : Option (Int32 × xM) :=
  (gI O M v0 10 7).bind fun x1 =>
  if x1 < (10 : Int32) then (
    some ((1 : Int32), M)
  ) else
  (isO O M v0 10).bind fun _ =>
  xcl (f_Series_exceptionOf O f v0 v1 M) fun x2 M1 =>
  if x2 = (-1 : Int32) then (
    some ((0 : Int32), M1)
  ) else
  some ((1 : Int32), M1)
set_option maxRecDepth 20000 in
theorem k_f_Series_hasPlaceFor (O : Nat → Option va_E) (f d : Nat) (v0 : Nat) (v1 : Int32) (M : xM) : xZ oI O (d + 1) 110 0 [(0, .ref v0), (1, .int v1)] [] M (f_Series_hasPlaceFor O f v0 v1 M) := by
  unfold f_Series_hasPlaceFor
  refine xZ.adv (me := xm110) hP_110 1 (pc' := 1) (lv' := [(0, .ref v0), (1, .int v1)]) (st' := [.ref v0]) rfl ?_
  refine xZ.k_gI (me := xm110) hP_110 rfl (fun x1 => ?_)
  refine xZ.adv (me := xm110) hP_110 1 (pc' := 6) (lv' := [(0, .ref v0), (1, .int v1)]) (st' := [.int (10 : Int32), .int x1]) rfl ?_
  refine xZ.ic_lt (me := xm110) hP_110 rfl (fun h1 => ?_) (fun h1 => ?_)
  · skip
    refine xZ.adv (me := xm110) hP_110 2 (pc' := 23) (lv' := [(0, .ref v0), (1, .int v1)]) (st' := [.int (1 : Int32)]) rfl ?_
    exact xZ.rete (me := xm110) hP_110 rfl rfl rfl
  · skip
    refine xZ.adv (me := xm110) hP_110 2 (pc' := 11) (lv' := [(0, .ref v0), (1, .int v1)]) (st' := [.int v1, .ref v0]) rfl ?_
    refine xZ.callv (κ := oI) (av := [.int v1]) (rest := []) (st' := fun x2 => [.int x2]) (k0 := v0) (me := xm110) hP_110 rfl (Or.inl rfl) ⟨rfl, by decide⟩ rfl rfl (Nat.le_of_ble_eq_true rfl) (by decide) hP_104 (Nat.le_of_ble_eq_true rfl) (fun _ => rfl) (k_f_Series_exceptionOf O f (d + 0) v0 v1 M) (fun x2 M1 => ?_)
    refine xZ.adv (me := xm110) hP_110 1 (pc' := 15) (lv' := [(0, .ref v0), (1, .int v1)]) (st' := [.int (-1 : Int32), .int x2]) rfl ?_
    refine xZ.ic_eq (me := xm110) hP_110 rfl (fun h2 => ?_) (fun h2 => ?_)
    · skip
      refine xZ.adv (me := xm110) hP_110 1 (pc' := 23) (lv' := [(0, .ref v0), (1, .int v1)]) (st' := [.int (0 : Int32)]) rfl ?_
      exact xZ.rete (me := xm110) hP_110 rfl rfl rfl
    · skip
      refine xZ.adv (me := xm110) hP_110 2 (pc' := 23) (lv' := [(0, .ref v0), (1, .int v1)]) (st' := [.int (1 : Int32)]) rfl ?_
      exact xZ.rete (me := xm110) hP_110 rfl rfl rfl
def f_Series_except_57 (O : Nat → Option va_E) (f : Nat) (v0 : Nat) (v1 : Int32) (v2 : Int32) (v3 : Int32) (M : xM) : Option (Unit × xM) :=
  (gR O M v0 10 8).bind fun x1 =>
  (wI M x1 v3 v1).bind fun M1 =>
  (gR O M1 v0 10 9).bind fun x2 =>
  (wI M1 x2 v3 v2).bind fun M2 =>
  some ((), M2)
set_option maxRecDepth 20000 in
theorem k_f_Series_except_57 (O : Nat → Option va_E) (f d : Nat) (v0 : Nat) (v1 : Int32) (v2 : Int32) (v3 : Int32) (M : xM) : xZ oU O (d + 1) 111 57 [(0, .ref v0), (1, .int v1), (2, .int v2), (3, .int v3)] [] M (f_Series_except_57 O f v0 v1 v2 v3 M) := by
  unfold f_Series_except_57
  refine xZ.adv (me := xm111) hP_111 1 (pc' := 58) (lv' := [(0, .ref v0), (1, .int v1), (2, .int v2), (3, .int v3)]) (st' := [.ref v0]) rfl ?_
  refine xZ.k_gR (me := xm111) hP_111 rfl (fun x1 => ?_)
  refine xZ.adv (me := xm111) hP_111 2 (pc' := 63) (lv' := [(0, .ref v0), (1, .int v1), (2, .int v2), (3, .int v3)]) (st' := [.int v1, .int v3, .ref x1]) rfl ?_
  refine xZ.k_wI (me := xm111) hP_111 rfl (fun M1 => ?_)
  refine xZ.adv (me := xm111) hP_111 1 (pc' := 65) (lv' := [(0, .ref v0), (1, .int v1), (2, .int v2), (3, .int v3)]) (st' := [.ref v0]) rfl ?_
  refine xZ.k_gR (me := xm111) hP_111 rfl (fun x2 => ?_)
  refine xZ.adv (me := xm111) hP_111 2 (pc' := 70) (lv' := [(0, .ref v0), (1, .int v1), (2, .int v2), (3, .int v3)]) (st' := [.int v2, .int v3, .ref x2]) rfl ?_
  refine xZ.k_wI (me := xm111) hP_111 rfl (fun M2 => ?_)
  exact xZ.retu (me := xm111) hP_111 rfl rfl
def f_Series_except_16 (O : Nat → Option va_E) (f : Nat) (v0 : Nat) (v1 : Int32) (v2 : Int32) (v3 : Int32) (M : xM) : Option (Unit × xM) :=
  if v3 < 0 then (
    some ((), M)
  ) else
  (gR O M v0 10 8).bind fun x1 =>
  (aN O M x1).bind fun x2 =>
  if x2 ≤ v3 then (
    some ((), M)
  ) else
  (gR O M v0 10 9).bind fun x3 =>
  (aN O M x3).bind fun x4 =>
  if v3 < x4 then (
    (gI O M v0 10 7).bind fun x5 =>
    if v3 = x5 then (
      (gI O M v0 10 7).bind fun x6 =>
      (pI M v0 10 7 (x6 + (1 : Int32))).bind fun M1 =>
      f_Series_except_57 O f v0 v1 v2 v3 M1
    ) else
    f_Series_except_57 O f v0 v1 v2 v3 M
  ) else
  some ((), M)
set_option maxRecDepth 20000 in
theorem k_f_Series_except_16 (O : Nat → Option va_E) (f d : Nat) (v0 : Nat) (v1 : Int32) (v2 : Int32) (v3 : Int32) (M : xM) : xZ oU O (d + 1) 111 16 [(0, .ref v0), (1, .int v1), (2, .int v2), (3, .int v3)] [] M (f_Series_except_16 O f v0 v1 v2 v3 M) := by
  unfold f_Series_except_16
  refine xZ.adv (me := xm111) hP_111 1 (pc' := 17) (lv' := [(0, .ref v0), (1, .int v1), (2, .int v2), (3, .int v3)]) (st' := [.int v3]) rfl ?_
  refine xZ.if_lt (me := xm111) hP_111 rfl (fun h1 => ?_) (fun h1 => ?_)
  · skip
    exact xZ.retu (me := xm111) hP_111 rfl rfl
  · skip
    refine xZ.adv (me := xm111) hP_111 2 (pc' := 22) (lv' := [(0, .ref v0), (1, .int v1), (2, .int v2), (3, .int v3)]) (st' := [.ref v0, .int v3]) rfl ?_
    refine xZ.k_gR (me := xm111) hP_111 rfl (fun x1 => ?_)
    refine xZ.k_aN (me := xm111) hP_111 rfl (fun x2 => ?_)
    refine xZ.ic_ge (me := xm111) hP_111 rfl (fun h2 => ?_) (fun h2 => ?_)
    · skip
      exact xZ.retu (me := xm111) hP_111 rfl rfl
    · skip
      refine xZ.adv (me := xm111) hP_111 2 (pc' := 31) (lv' := [(0, .ref v0), (1, .int v1), (2, .int v2), (3, .int v3)]) (st' := [.ref v0, .int v3]) rfl ?_
      refine xZ.k_gR (me := xm111) hP_111 rfl (fun x3 => ?_)
      refine xZ.k_aN (me := xm111) hP_111 rfl (fun x4 => ?_)
      refine xZ.ic_lt (me := xm111) hP_111 rfl (fun h3 => ?_) (fun h3 => ?_)
      · skip
        refine xZ.adv (me := xm111) hP_111 2 (pc' := 41) (lv' := [(0, .ref v0), (1, .int v1), (2, .int v2), (3, .int v3)]) (st' := [.ref v0, .int v3]) rfl ?_
        refine xZ.k_gI (me := xm111) hP_111 rfl (fun x5 => ?_)
        refine xZ.ic_ne (me := xm111) hP_111 rfl (fun h4 => ?_) (fun h4 => ?_)
        · skip
          refine xZ.adv (me := xm111) hP_111 2 (pc' := 49) (lv' := [(0, .ref v0), (1, .int v1), (2, .int v2), (3, .int v3)]) (st' := [.ref v0, .ref v0]) rfl ?_
          refine xZ.k_gI (me := xm111) hP_111 rfl (fun x6 => ?_)
          refine xZ.adv (me := xm111) hP_111 2 (pc' := 54) (lv' := [(0, .ref v0), (1, .int v1), (2, .int v2), (3, .int v3)]) (st' := [.int (x6 + (1 : Int32)), .ref v0]) rfl ?_
          refine xZ.k_pI (me := xm111) hP_111 rfl (fun M1 => ?_)
          exact (k_f_Series_except_57 O f d v0 v1 v2 v3 M1)
        · skip
          exact (k_f_Series_except_57 O f d v0 v1 v2 v3 M)
      · skip
        exact xZ.retu (me := xm111) hP_111 rfl rfl
def f_Series_except (O : Nat → Option va_E) (f : Nat) (v0 : Nat) (v1 : Int32) (v2 : Int32) (M : xM) : Option (Unit × xM) :=
  (isO O M v0 10).bind fun _ =>
  xcl (f_Series_exceptionOf O f v0 v1 M) fun x1 M1 =>
  if x1 = (-1 : Int32) then (
    (gI O M1 v0 10 7).bind fun x2 =>
    f_Series_except_16 O f v0 v1 v2 x2 M1
  ) else
  f_Series_except_16 O f v0 v1 v2 x1 M1
set_option maxRecDepth 20000 in
theorem k_f_Series_except (O : Nat → Option va_E) (f d : Nat) (v0 : Nat) (v1 : Int32) (v2 : Int32) (M : xM) : xZ oU O (d + 1) 111 0 [(0, .ref v0), (1, .int v1), (2, .int v2)] [] M (f_Series_except O f v0 v1 v2 M) := by
  unfold f_Series_except
  refine xZ.adv (me := xm111) hP_111 2 (pc' := 2) (lv' := [(0, .ref v0), (1, .int v1), (2, .int v2)]) (st' := [.int v1, .ref v0]) rfl ?_
  refine xZ.callv (κ := oI) (av := [.int v1]) (rest := []) (st' := fun x1 => [.int x1]) (k0 := v0) (me := xm111) hP_111 rfl (Or.inl rfl) ⟨rfl, by decide⟩ rfl rfl (Nat.le_of_ble_eq_true rfl) (by decide) hP_104 (Nat.le_of_ble_eq_true rfl) (fun _ => rfl) (k_f_Series_exceptionOf O f (d + 0) v0 v1 M) (fun x1 M1 => ?_)
  refine xZ.adv (me := xm111) hP_111 3 (pc' := 8) (lv' := [(3, .int x1), (0, .ref v0), (1, .int v1), (2, .int v2)]) (st' := [.int (-1 : Int32), .int x1]) rfl ?_
  refine xZ.ic_ne (me := xm111) hP_111 rfl (fun h1 => ?_) (fun h1 => ?_)
  · skip
    refine xZ.adv (me := xm111) hP_111 1 (pc' := 12) (lv' := [(3, .int x1), (0, .ref v0), (1, .int v1), (2, .int v2)]) (st' := [.ref v0]) rfl ?_
    refine xZ.k_gI (me := xm111) hP_111 rfl (fun x2 => ?_)
    refine xZ.adv (me := xm111) hP_111 1 (pc' := 16) (lv' := [(3, .int x2), (0, .ref v0), (1, .int v1), (2, .int v2)]) (st' := []) rfl ?_
    exact xZ.sub (xsc (.tail _ (.head _)) (xsc (.tail _ (.tail _ (.head _))) (xsc (.tail _ (.tail _ (.tail _ (.head _)))) (xsc (.head _) xsn)))) (show ([3, 0, 1, 2] : List Nat).Nodup from by decide) (k_f_Series_except_16 O f d v0 v1 v2 x2 M1)
  · skip
    exact xZ.sub (xsc (.tail _ (.head _)) (xsc (.tail _ (.tail _ (.head _))) (xsc (.tail _ (.tail _ (.tail _ (.head _)))) (xsc (.head _) xsn)))) (show ([3, 0, 1, 2] : List Nat).Nodup from by decide) (k_f_Series_except_16 O f d v0 v1 v2 x1 M1)
def f_Calendarhall_leaveOut (O : Nat → Option va_E) (f : Nat) (v0 : Nat) (v1 : Int32) (v2 : Int32) (M : xM) : Option (Int32 × xM) :=
  (isO O M v0 12).bind fun _ =>
  xcl (f_Calendarhall_seriesNumbered O f v0 v1 M) fun x1 M1 =>
  (gR O M1 x1 10 6).bind fun x2 =>
  (isO O M1 x2 9).bind fun _ =>
  xcl (f_Rule_isDay O f x2 v2 M1) fun x3 M2 =>
  if x3 = 0 then (
    none
  ) else
  (isO O M2 x1 10).bind fun _ =>
  xcl (f_Series_hasPlaceFor O f x1 v2 M2) fun x4 M3 =>
  if x4 = 0 then (
    none
  ) else
  (isO O M3 v0 12).bind fun _ =>
  xcl (f_Calendarhall_saveForUndo O f v0 M3) fun _ M4 =>
  (isO O M4 x1 10).bind fun _ =>
  xcl (f_Series_except O f x1 v2 (-1 : Int32) M4) fun _ M5 =>
  (gI O M5 x1 10 7).bind fun x7 =>
  some (x7, M5)
set_option maxRecDepth 20000 in
theorem k_f_Calendarhall_leaveOut (O : Nat → Option va_E) (f d : Nat) (v0 : Nat) (v1 : Int32) (v2 : Int32) (M : xM) : xZ oI O (d + 5) 109 0 [(0, .ref v0), (1, .int v1), (2, .int v2)] [] M (f_Calendarhall_leaveOut O f v0 v1 v2 M) := by
  unfold f_Calendarhall_leaveOut
  refine xZ.adv (me := xm109) hP_109 2 (pc' := 2) (lv' := [(0, .ref v0), (1, .int v1), (2, .int v2)]) (st' := [.int v1, .ref v0]) rfl ?_
  refine xZ.callv (κ := oR) (av := [.int v1]) (rest := []) (st' := fun x1 => [.ref x1]) (k0 := v0) (me := xm109) hP_109 rfl (Or.inl rfl) ⟨rfl, by decide⟩ rfl rfl (Nat.le_of_ble_eq_true rfl) (by decide) hP_79 (Nat.le_of_ble_eq_true rfl) (fun _ => rfl) (k_f_Calendarhall_seriesNumbered O f (d + 3) v0 v1 M) (fun x1 M1 => ?_)
  refine xZ.adv (me := xm109) hP_109 2 (pc' := 7) (lv' := [(3, .ref x1), (0, .ref v0), (1, .int v1), (2, .int v2)]) (st' := [.ref x1]) rfl ?_
  refine xZ.k_gR (me := xm109) hP_109 rfl (fun x2 => ?_)
  refine xZ.adv (me := xm109) hP_109 1 (pc' := 11) (lv' := [(3, .ref x1), (0, .ref v0), (1, .int v1), (2, .int v2)]) (st' := [.int v2, .ref x2]) rfl ?_
  refine xZ.callv (κ := oI) (av := [.int v2]) (rest := []) (st' := fun x3 => [.int x3]) (k0 := x2) (me := xm109) hP_109 rfl (Or.inl rfl) ⟨rfl, by decide⟩ rfl rfl (Nat.le_of_ble_eq_true rfl) (by decide) hP_99 (Nat.le_of_ble_eq_true rfl) (fun _ => rfl) (k_f_Rule_isDay O f (d + 1) x2 v2 M1) (fun x3 M2 => ?_)
  refine xZ.if_ne (me := xm109) hP_109 rfl (fun h1 => ?_) (fun h1 => ?_)
  · skip
    exact xZ.no
  · skip
    refine xZ.adv (me := xm109) hP_109 2 (pc' := 27) (lv' := [(3, .ref x1), (0, .ref v0), (1, .int v1), (2, .int v2)]) (st' := [.int v2, .ref x1]) rfl ?_
    refine xZ.callv (κ := oI) (av := [.int v2]) (rest := []) (st' := fun x4 => [.int x4]) (k0 := x1) (me := xm109) hP_109 rfl (Or.inl rfl) ⟨rfl, by decide⟩ rfl rfl (Nat.le_of_ble_eq_true rfl) (by decide) hP_110 (Nat.le_of_ble_eq_true rfl) (fun _ => rfl) (k_f_Series_hasPlaceFor O f (d + 3) x1 v2 M2) (fun x4 M3 => ?_)
    refine xZ.if_ne (me := xm109) hP_109 rfl (fun h2 => ?_) (fun h2 => ?_)
    · skip
      exact xZ.no
    · skip
      refine xZ.adv (me := xm109) hP_109 1 (pc' := 42) (lv' := [(3, .ref x1), (0, .ref v0), (1, .int v1), (2, .int v2)]) (st' := [.ref v0]) rfl ?_
      refine xZ.callv (κ := oU) (av := []) (rest := []) (st' := fun _ => []) (k0 := v0) (me := xm109) hP_109 rfl (Or.inl rfl) ⟨rfl, by decide⟩ rfl rfl (Nat.le_of_ble_eq_true rfl) (by decide) hP_23 (Nat.le_of_ble_eq_true rfl) (fun _ => rfl) (k_f_Calendarhall_saveForUndo O f (d + 0) v0 M3) (fun _ M4 => ?_)
      refine xZ.adv (me := xm109) hP_109 3 (pc' := 48) (lv' := [(3, .ref x1), (0, .ref v0), (1, .int v1), (2, .int v2)]) (st' := [.int (-1 : Int32), .int v2, .ref x1]) rfl ?_
      refine xZ.callv (κ := oU) (av := [.int v2, .int (-1 : Int32)]) (rest := []) (st' := fun _ => []) (k0 := x1) (me := xm109) hP_109 rfl (Or.inl rfl) ⟨rfl, by decide⟩ rfl rfl (Nat.le_of_ble_eq_true rfl) (by decide) hP_111 (Nat.le_of_ble_eq_true rfl) (fun _ => rfl) (k_f_Series_except O f (d + 3) x1 v2 (-1 : Int32) M4) (fun _ M5 => ?_)
      refine xZ.adv (me := xm109) hP_109 1 (pc' := 52) (lv' := [(3, .ref x1), (0, .ref v0), (1, .int v1), (2, .int v2)]) (st' := [.ref x1]) rfl ?_
      refine xZ.k_gI (me := xm109) hP_109 rfl (fun x7 => ?_)
      exact xZ.reti (me := xm109) hP_109 rfl rfl
