/-! ===== texts ===== -/
def f_Calendarhall_countDays (O : Nat → Option va_E) (f : Nat) (v0 : Nat) (v1 : Int32) (v2 : Int32) (v3 : Int32) (M : xM) : Option (Int32 × xM) :=
  (isO O M v0 12).bind fun _ =>
  xcl (f_Calendarhall_seriesNumbered O f v0 v1 M) fun x1 M1 =>
  xcl (f_Calendarhall_needDay O f v2 M1) fun _ M2 =>
  xcl (f_Calendarhall_needRange O f v3 v2 (146000 : Int32) M2) fun _ M3 =>
  (gR O M3 x1 10 6).bind fun x4 =>
  (isO O M3 x4 9).bind fun _ =>
  xcl (f_Rule_count O f x4 v2 v3 M3) fun x5 M4 =>
  some (x5, M4)
set_option maxRecDepth 20000 in
theorem k_f_Calendarhall_countDays (O : Nat → Option va_E) (f d : Nat) (v0 : Nat) (v1 : Int32) (v2 : Int32) (v3 : Int32) (M : xM) : xZ oI O (d + 5) 93 0 [(0, .ref v0), (1, .int v1), (2, .int v2), (3, .int v3)] [] M (f_Calendarhall_countDays O f v0 v1 v2 v3 M) := by
  unfold f_Calendarhall_countDays
  refine xZ.adv (me := xm93) hP_93 2 (pc' := 2) (lv' := [(0, .ref v0), (1, .int v1), (2, .int v2), (3, .int v3)]) (st' := [.int v1, .ref v0]) rfl ?_
  refine xZ.callv (κ := oR) (av := [.int v1]) (rest := []) (st' := fun x1 => [.ref x1]) (k0 := v0) (me := xm93) hP_93 rfl (Or.inl rfl) ⟨rfl, by decide⟩ rfl rfl (Nat.le_of_ble_eq_true rfl) (by decide) hP_79 (Nat.le_of_ble_eq_true rfl) (fun _ => rfl) (k_f_Calendarhall_seriesNumbered O f (d + 3) v0 v1 M) (fun x1 M1 => ?_)
  refine xZ.adv (me := xm93) hP_93 2 (pc' := 8) (lv' := [(4, .ref x1), (0, .ref v0), (1, .int v1), (2, .int v2), (3, .int v3)]) (st' := [.int v2]) rfl ?_
  refine xZ.calls (κ := oU) (av := [.int v2]) (rest := []) (st' := fun _ => []) (me := xm93) hP_93 rfl rfl rfl (Nat.le_of_ble_eq_true rfl) (by decide) hP_37 (Nat.le_of_ble_eq_true rfl) (fun _ => rfl) (k_f_Calendarhall_needDay O f (d + 4) v2 M1) (fun _ M2 => ?_)
  refine xZ.adv (me := xm93) hP_93 3 (pc' := 15) (lv' := [(4, .ref x1), (0, .ref v0), (1, .int v1), (2, .int v2), (3, .int v3)]) (st' := [.int (146000 : Int32), .int v2, .int v3]) rfl ?_
  refine xZ.calls (κ := oU) (av := [.int v3, .int v2, .int (146000 : Int32)]) (rest := []) (st' := fun _ => []) (me := xm93) hP_93 rfl rfl rfl (Nat.le_of_ble_eq_true rfl) (by decide) hP_22 (Nat.le_of_ble_eq_true rfl) (fun _ => rfl) (k_f_Calendarhall_needRange O f (d + 4) v3 v2 (146000 : Int32) M2) (fun _ M3 => ?_)
  refine xZ.adv (me := xm93) hP_93 1 (pc' := 20) (lv' := [(4, .ref x1), (0, .ref v0), (1, .int v1), (2, .int v2), (3, .int v3)]) (st' := [.ref x1]) rfl ?_
  refine xZ.k_gR (me := xm93) hP_93 rfl (fun x4 => ?_)
  refine xZ.adv (me := xm93) hP_93 2 (pc' := 25) (lv' := [(4, .ref x1), (0, .ref v0), (1, .int v1), (2, .int v2), (3, .int v3)]) (st' := [.int v3, .int v2, .ref x4]) rfl ?_
  refine xZ.callv (κ := oI) (av := [.int v2, .int v3]) (rest := []) (st' := fun x5 => [.int x5]) (k0 := x4) (me := xm93) hP_93 rfl (Or.inl rfl) ⟨rfl, by decide⟩ rfl rfl (Nat.le_of_ble_eq_true rfl) (by decide) hP_94 (Nat.le_of_ble_eq_true rfl) (fun _ => rfl) (k_f_Rule_count O f (d + 0) x4 v2 v3 M3) (fun x5 M4 => ?_)
  exact xZ.reti (me := xm93) hP_93 rfl rfl
def f_Rule_placeInSet_17 (O : Nat → Option va_E) (f : Nat) : Nat → Nat → Int32 → Int32 → Int32 → Int32 → Int32 → xM → Option (Int32 × xM)
  | 0, _, _, _, _, _, _, _ => none
  | n + 1, v0, v1, v2, v3, v4, v5, M =>
    if (v2 - v2 / (7 : Int32) * (7 : Int32)) < v5 then (
      some (v4, M)
    ) else
    (gI O M v0 9 3).bind fun x1 =>
    xcl (f_Days_weekdayOf O f (v1 + (v3 * v5)) M) fun x2 M1 =>
    if ((x1 >>> (x2 &&& 31)) &&& (1 : Int32)) = (1 : Int32) then (
      f_Rule_placeInSet_17 O f n v0 v1 v2 v3 (v4 + (1 : Int32)) (v5 + (1 : Int32)) M1
    ) else
    f_Rule_placeInSet_17 O f n v0 v1 v2 v3 v4 (v5 + (1 : Int32)) M1
set_option maxRecDepth 20000 in
theorem k_f_Rule_placeInSet_17 (O : Nat → Option va_E) (f d : Nat) : ∀ (n : Nat) (v0 : Nat) (v1 : Int32) (v2 : Int32) (v3 : Int32) (v4 : Int32) (v5 : Int32) (M : xM), xZ oI O (d + 1) 101 17 [(0, .ref v0), (1, .int v1), (2, .int v2), (3, .int v3), (4, .int v4), (5, .int v5)] [] M (f_Rule_placeInSet_17 O f n v0 v1 v2 v3 v4 v5 M) := by
  intro n
  induction n with
  | zero =>
    intro v0 v1 v2 v3 v4 v5 M
    exact xZ.no
  | succ n ih =>
    intro v0 v1 v2 v3 v4 v5 M
    unfold f_Rule_placeInSet_17
    refine xZ.adv (me := xm101) hP_101 4 (pc' := 23) (lv' := [(0, .ref v0), (1, .int v1), (2, .int v2), (3, .int v3), (4, .int v4), (5, .int v5)]) (st' := [.int (v2 - v2 / (7 : Int32) * (7 : Int32)), .int v5]) rfl ?_
    refine xZ.ic_gt (me := xm101) hP_101 rfl (fun h1 => ?_) (fun h1 => ?_)
    · skip
      refine xZ.adv (me := xm101) hP_101 1 (pc' := 57) (lv' := [(0, .ref v0), (1, .int v1), (2, .int v2), (3, .int v3), (4, .int v4), (5, .int v5)]) (st' := [.int v4]) rfl ?_
      exact xZ.reti (me := xm101) hP_101 rfl rfl
    · skip
      refine xZ.adv (me := xm101) hP_101 1 (pc' := 27) (lv' := [(0, .ref v0), (1, .int v1), (2, .int v2), (3, .int v3), (4, .int v4), (5, .int v5)]) (st' := [.ref v0]) rfl ?_
      refine xZ.k_gI (me := xm101) hP_101 rfl (fun x1 => ?_)
      refine xZ.adv (me := xm101) hP_101 5 (pc' := 36) (lv' := [(0, .ref v0), (1, .int v1), (2, .int v2), (3, .int v3), (4, .int v4), (5, .int v5)]) (st' := [.int (v1 + (v3 * v5)), .int x1]) rfl ?_
      refine xZ.calls (κ := oI) (av := [.int (v1 + (v3 * v5))]) (rest := [.int x1]) (st' := fun x2 => [.int x2, .int x1]) (me := xm101) hP_101 rfl rfl rfl (Nat.le_of_ble_eq_true rfl) (by decide) hP_49 (Nat.le_of_ble_eq_true rfl) (fun _ => rfl) (k_f_Days_weekdayOf O f (d + 0) (v1 + (v3 * v5)) M) (fun x2 M1 => ?_)
      refine xZ.adv (me := xm101) hP_101 4 (pc' := 43) (lv' := [(0, .ref v0), (1, .int v1), (2, .int v2), (3, .int v3), (4, .int v4), (5, .int v5)]) (st' := [.int (1 : Int32), .int ((x1 >>> (x2 &&& 31)) &&& (1 : Int32))]) rfl ?_
      refine xZ.ic_ne (me := xm101) hP_101 rfl (fun h2 => ?_) (fun h2 => ?_)
      · skip
        refine xZ.adv (me := xm101) hP_101 3 (pc' := 17) (lv' := [(5, .int (v5 + (1 : Int32))), (4, .int (v4 + (1 : Int32))), (0, .ref v0), (1, .int v1), (2, .int v2), (3, .int v3)]) (st' := []) rfl ?_
        exact xZ.sub (xsc (.tail _ (.tail _ (.head _))) (xsc (.tail _ (.tail _ (.tail _ (.head _)))) (xsc (.tail _ (.tail _ (.tail _ (.tail _ (.head _))))) (xsc (.tail _ (.tail _ (.tail _ (.tail _ (.tail _ (.head _)))))) (xsc (.tail _ (.head _)) (xsc (.head _) xsn)))))) (show ([5, 4, 0, 1, 2, 3] : List Nat).Nodup from by decide) (ih v0 v1 v2 v3 (v4 + (1 : Int32)) (v5 + (1 : Int32)) M1)
      · skip
        refine xZ.adv (me := xm101) hP_101 2 (pc' := 17) (lv' := [(5, .int (v5 + (1 : Int32))), (0, .ref v0), (1, .int v1), (2, .int v2), (3, .int v3), (4, .int v4)]) (st' := []) rfl ?_
        exact xZ.sub (xsc (.tail _ (.head _)) (xsc (.tail _ (.tail _ (.head _))) (xsc (.tail _ (.tail _ (.tail _ (.head _)))) (xsc (.tail _ (.tail _ (.tail _ (.tail _ (.head _))))) (xsc (.tail _ (.tail _ (.tail _ (.tail _ (.tail _ (.head _)))))) (xsc (.head _) xsn)))))) (show ([5, 0, 1, 2, 3, 4] : List Nat).Nodup from by decide) (ih v0 v1 v2 v3 v4 (v5 + (1 : Int32)) M1)
def f_Rule_placeInSet (O : Nat → Option va_E) (f : Nat) (v0 : Nat) (v1 : Int32) (v2 : Int32) (v3 : Int32) (M : xM) : Option (Int32 × xM) :=
  (gI O M v0 9 3).bind fun x1 =>
  xcl (f_Integer_bitCount O f x1 M) fun x2 M1 =>
  f_Rule_placeInSet_17 O f f v0 v1 v2 v3 ((v2 / (7 : Int32)) * x2) (0 : Int32) M1
set_option maxRecDepth 20000 in
theorem k_f_Rule_placeInSet (O : Nat → Option va_E) (f d : Nat) (v0 : Nat) (v1 : Int32) (v2 : Int32) (v3 : Int32) (M : xM) : xZ oI O (d + 1) 101 0 [(0, .ref v0), (1, .int v1), (2, .int v2), (3, .int v3)] [] M (f_Rule_placeInSet O f v0 v1 v2 v3 M) := by
  unfold f_Rule_placeInSet
  refine xZ.adv (me := xm101) hP_101 4 (pc' := 5) (lv' := [(0, .ref v0), (1, .int v1), (2, .int v2), (3, .int v3)]) (st' := [.ref v0, .int (v2 / (7 : Int32))]) rfl ?_
  refine xZ.k_gI (me := xm101) hP_101 rfl (fun x1 => ?_)
  refine xZ.calls (κ := oI) (av := [.int x1]) (rest := [.int (v2 / (7 : Int32))]) (st' := fun x2 => [.int x2, .int (v2 / (7 : Int32))]) (me := xm101) hP_101 rfl rfl rfl (Nat.le_of_ble_eq_true rfl) (by decide) hP_252 (Nat.le_of_ble_eq_true rfl) (fun _ => rfl) (k_f_Integer_bitCount O f (d + 0) x1 M) (fun x2 M1 => ?_)
  refine xZ.adv (me := xm101) hP_101 4 (pc' := 17) (lv' := [(5, .int (0 : Int32)), (4, .int ((v2 / (7 : Int32)) * x2)), (0, .ref v0), (1, .int v1), (2, .int v2), (3, .int v3)]) (st' := []) rfl ?_
  exact xZ.sub (xsc (.tail _ (.tail _ (.head _))) (xsc (.tail _ (.tail _ (.tail _ (.head _)))) (xsc (.tail _ (.tail _ (.tail _ (.tail _ (.head _))))) (xsc (.tail _ (.tail _ (.tail _ (.tail _ (.tail _ (.head _)))))) (xsc (.tail _ (.head _)) (xsc (.head _) xsn)))))) (show ([5, 4, 0, 1, 2, 3] : List Nat).Nodup from by decide) (k_f_Rule_placeInSet_17 O f d f v0 v1 v2 v3 ((v2 / (7 : Int32)) * x2) (0 : Int32) M1)
def f_Rule_holds_85 (O : Nat → Option va_E) (f : Nat) (v0 : Nat) (v1 : Int32) (s0 : Int32) (M : xM) : Option (Int32 × xM) :=
  (gI O M v0 9 1).bind fun x1 =>
  if x1 = (2 : Int32) then (
    if s0 = 0 then (
      some ((0 : Int32), M)
    ) else
    xcl (f_Days_weekOf O f v1 M) fun x2 M1 =>
    (gI O M1 v0 9 0).bind fun x3 =>
    xcl (f_Days_weekOf O f x3 M1) fun x4 M2 =>
    (gI O M2 v0 9 2).bind fun x5 =>
    if x5 = 0 then none else xlet ((x2 - x4) - (x2 - x4) / x5 * x5) fun x6 =>
    if x6 = 0 then (
      some ((1 : Int32), M2)
    ) else
    some ((0 : Int32), M2)
  ) else
  xcl (f_Days_monthOf O f v1 M) fun x7 M3 =>
  (gI O M3 v0 9 0).bind fun x8 =>
  xcl (f_Days_monthOf O f x8 M3) fun x9 M4 =>
  (isO O M4 v0 9).bind fun _ =>
  xcl (f_Rule_monthStep O f v0 M4) fun x10 M5 =>
  if x10 < (1 : Int32) then (
    some ((0 : Int32), M5)
  ) else
  if x10 = 0 then none else xlet ((x7 - x9) - (x7 - x9) / x10 * x10) fun x11 =>
  if x11 = 0 then (
    xcl (f_Days_monthBegin O f x7 M5) fun x12 M6 =>
    xcl (f_Days_monthLength O f x7 M6) fun x13 M7 =>
    xlet ((x13 - (1 : Int32)) - (v1 - x12)) fun x14 =>
    none
  ) else
  some ((0 : Int32), M5)
set_option maxRecDepth 20000 in
theorem k_f_Rule_holds_85 (O : Nat → Option va_E) (f d : Nat) (v0 : Nat) (v1 : Int32) (s0 : Int32) (M : xM) : xZ oI O (d + 2) 100 85 [(0, .ref v0), (1, .int v1)] [.int s0] M (f_Rule_holds_85 O f v0 v1 s0 M) := by
  unfold f_Rule_holds_85
  refine xZ.adv (me := xm100) hP_100 2 (pc' := 87) (lv' := [(2, .int s0), (0, .ref v0), (1, .int v1)]) (st' := [.ref v0]) rfl ?_
  refine xZ.k_gI (me := xm100) hP_100 rfl (fun x1 => ?_)
  refine xZ.adv (me := xm100) hP_100 1 (pc' := 91) (lv' := [(2, .int s0), (0, .ref v0), (1, .int v1)]) (st' := [.int (2 : Int32), .int x1]) rfl ?_
  refine xZ.ic_ne (me := xm100) hP_100 rfl (fun h1 => ?_) (fun h1 => ?_)
  · skip
    refine xZ.adv (me := xm100) hP_100 1 (pc' := 95) (lv' := [(2, .int s0), (0, .ref v0), (1, .int v1)]) (st' := [.int s0]) rfl ?_
    refine xZ.if_eq (me := xm100) hP_100 rfl (fun h2 => ?_) (fun h2 => ?_)
    · skip
      refine xZ.adv (me := xm100) hP_100 1 (pc' := 123) (lv' := [(2, .int s0), (0, .ref v0), (1, .int v1)]) (st' := [.int (0 : Int32)]) rfl ?_
      exact xZ.rete (me := xm100) hP_100 rfl rfl rfl
    · skip
      refine xZ.adv (me := xm100) hP_100 1 (pc' := 99) (lv' := [(2, .int s0), (0, .ref v0), (1, .int v1)]) (st' := [.int v1]) rfl ?_
      refine xZ.calls (κ := oI) (av := [.int v1]) (rest := []) (st' := fun x2 => [.int x2]) (me := xm100) hP_100 rfl rfl rfl (Nat.le_of_ble_eq_true rfl) (by decide) hP_47 (Nat.le_of_ble_eq_true rfl) (fun _ => rfl) (k_f_Days_weekOf O f (d + 1) v1 M) (fun x2 M1 => ?_)
      refine xZ.adv (me := xm100) hP_100 1 (pc' := 103) (lv' := [(2, .int s0), (0, .ref v0), (1, .int v1)]) (st' := [.ref v0, .int x2]) rfl ?_
      refine xZ.k_gI (me := xm100) hP_100 rfl (fun x3 => ?_)
      refine xZ.calls (κ := oI) (av := [.int x3]) (rest := [.int x2]) (st' := fun x4 => [.int x4, .int x2]) (me := xm100) hP_100 rfl rfl rfl (Nat.le_of_ble_eq_true rfl) (by decide) hP_47 (Nat.le_of_ble_eq_true rfl) (fun _ => rfl) (k_f_Days_weekOf O f (d + 1) x3 M1) (fun x4 M2 => ?_)
      refine xZ.adv (me := xm100) hP_100 2 (pc' := 111) (lv' := [(2, .int s0), (0, .ref v0), (1, .int v1)]) (st' := [.ref v0, .int (x2 - x4)]) rfl ?_
      refine xZ.k_gI (me := xm100) hP_100 rfl (fun x5 => ?_)
      refine xZ.rem (me := xm100) hP_100 rfl (fun x6 => ?_)
      refine xZ.if_ne (me := xm100) hP_100 rfl (fun h3 => ?_) (fun h3 => ?_)
      · skip
        refine xZ.adv (me := xm100) hP_100 2 (pc' := 123) (lv' := [(2, .int s0), (0, .ref v0), (1, .int v1)]) (st' := [.int (1 : Int32)]) rfl ?_
        exact xZ.rete (me := xm100) hP_100 rfl rfl rfl
      · skip
        refine xZ.adv (me := xm100) hP_100 1 (pc' := 123) (lv' := [(2, .int s0), (0, .ref v0), (1, .int v1)]) (st' := [.int (0 : Int32)]) rfl ?_
        exact xZ.rete (me := xm100) hP_100 rfl rfl rfl
  · skip
    refine xZ.adv (me := xm100) hP_100 1 (pc' := 125) (lv' := [(2, .int s0), (0, .ref v0), (1, .int v1)]) (st' := [.int v1]) rfl ?_
    refine xZ.calls (κ := oI) (av := [.int v1]) (rest := []) (st' := fun x7 => [.int x7]) (me := xm100) hP_100 rfl rfl rfl (Nat.le_of_ble_eq_true rfl) (by decide) hP_52 (Nat.le_of_ble_eq_true rfl) (fun _ => rfl) (k_f_Days_monthOf O f (d + 1) v1 M) (fun x7 M3 => ?_)
    refine xZ.adv (me := xm100) hP_100 2 (pc' := 130) (lv' := [(3, .int x7), (2, .int s0), (0, .ref v0), (1, .int v1)]) (st' := [.ref v0]) rfl ?_
    refine xZ.k_gI (me := xm100) hP_100 rfl (fun x8 => ?_)
    refine xZ.calls (κ := oI) (av := [.int x8]) (rest := []) (st' := fun x9 => [.int x9]) (me := xm100) hP_100 rfl rfl rfl (Nat.le_of_ble_eq_true rfl) (by decide) hP_52 (Nat.le_of_ble_eq_true rfl) (fun _ => rfl) (k_f_Days_monthOf O f (d + 1) x8 M3) (fun x9 M4 => ?_)
    refine xZ.adv (me := xm100) hP_100 2 (pc' := 139) (lv' := [(4, .int x9), (3, .int x7), (2, .int s0), (0, .ref v0), (1, .int v1)]) (st' := [.ref v0]) rfl ?_
    refine xZ.callv (κ := oI) (av := []) (rest := []) (st' := fun x10 => [.int x10]) (k0 := v0) (me := xm100) hP_100 rfl (Or.inl rfl) ⟨rfl, by decide⟩ rfl rfl (Nat.le_of_ble_eq_true rfl) (by decide) hP_51 (Nat.le_of_ble_eq_true rfl) (fun _ => rfl) (k_f_Rule_monthStep O f (d + 0) v0 M4) (fun x10 M5 => ?_)
    refine xZ.adv (me := xm100) hP_100 3 (pc' := 147) (lv' := [(5, .int x10), (4, .int x9), (3, .int x7), (2, .int s0), (0, .ref v0), (1, .int v1)]) (st' := [.int (1 : Int32), .int x10]) rfl ?_
    refine xZ.ic_lt (me := xm100) hP_100 rfl (fun h4 => ?_) (fun h4 => ?_)
    · skip
      refine xZ.adv (me := xm100) hP_100 1 (pc' := 161) (lv' := [(5, .int x10), (4, .int x9), (3, .int x7), (2, .int s0), (0, .ref v0), (1, .int v1)]) (st' := [.int (0 : Int32)]) rfl ?_
      exact xZ.rete (me := xm100) hP_100 rfl rfl rfl
    · skip
      refine xZ.adv (me := xm100) hP_100 4 (pc' := 156) (lv' := [(5, .int x10), (4, .int x9), (3, .int x7), (2, .int s0), (0, .ref v0), (1, .int v1)]) (st' := [.int x10, .int (x7 - x9)]) rfl ?_
      refine xZ.rem (me := xm100) hP_100 rfl (fun x11 => ?_)
      refine xZ.if_eq (me := xm100) hP_100 rfl (fun h5 => ?_) (fun h5 => ?_)
      · skip
        refine xZ.adv (me := xm100) hP_100 2 (pc' := 164) (lv' := [(5, .int x10), (4, .int x9), (3, .int x7), (2, .int s0), (0, .ref v0), (1, .int v1)]) (st' := [.int x7, .int v1]) rfl ?_
        refine xZ.calls (κ := oI) (av := [.int x7]) (rest := [.int v1]) (st' := fun x12 => [.int x12, .int v1]) (me := xm100) hP_100 rfl rfl rfl (Nat.le_of_ble_eq_true rfl) (by decide) hP_54 (Nat.le_of_ble_eq_true rfl) (fun _ => rfl) (k_f_Days_monthBegin O f (d + 1) x7 M5) (fun x12 M6 => ?_)
        refine xZ.adv (me := xm100) hP_100 3 (pc' := 171) (lv' := [(6, .int (v1 - x12)), (5, .int x10), (4, .int x9), (3, .int x7), (2, .int s0), (0, .ref v0), (1, .int v1)]) (st' := [.int x7]) rfl ?_
        refine xZ.calls (κ := oI) (av := [.int x7]) (rest := []) (st' := fun x13 => [.int x13]) (me := xm100) hP_100 rfl rfl rfl (Nat.le_of_ble_eq_true rfl) (by decide) hP_55 (Nat.le_of_ble_eq_true rfl) (fun _ => rfl) (k_f_Days_monthLength O f (d + 1) x7 M6) (fun x13 M7 => ?_)
        refine xZ.adv (me := xm100) hP_100 5 (pc' := 181) (lv' := [(7, .int ((x13 - (1 : Int32)) - (v1 - x12))), (6, .int (v1 - x12)), (5, .int x10), (4, .int x9), (3, .int x7), (2, .int s0), (0, .ref v0), (1, .int v1)]) (st' := []) rfl ?_
        refine xZ.letI (v := ((x13 - (1 : Int32)) - (v1 - x12))) (lvf := fun x14 => [(7, .int x14), (6, .int (v1 - x12)), (5, .int x10), (4, .int x9), (3, .int x7), (2, .int s0), (0, .ref v0), (1, .int v1)]) (stf := fun x14 => []) ?_
        intro x14
        exact xZ.no
      · skip
        refine xZ.adv (me := xm100) hP_100 1 (pc' := 161) (lv' := [(5, .int x10), (4, .int x9), (3, .int x7), (2, .int s0), (0, .ref v0), (1, .int v1)]) (st' := [.int (0 : Int32)]) rfl ?_
        exact xZ.rete (me := xm100) hP_100 rfl rfl rfl
def f_Rule_holds_23 (O : Nat → Option va_E) (f : Nat) (v0 : Nat) (v1 : Int32) (M : xM) : Option (Int32 × xM) :=
  (gI O M v0 9 0).bind fun x1 =>
  if v1 = x1 then (
    some ((1 : Int32), M)
  ) else
  some ((0 : Int32), M)
set_option maxRecDepth 20000 in
theorem k_f_Rule_holds_23 (O : Nat → Option va_E) (f d : Nat) (v0 : Nat) (v1 : Int32) (M : xM) : xZ oI O (d + 2) 100 23 [(0, .ref v0), (1, .int v1)] [] M (f_Rule_holds_23 O f v0 v1 M) := by
  unfold f_Rule_holds_23
  refine xZ.adv (me := xm100) hP_100 2 (pc' := 25) (lv' := [(0, .ref v0), (1, .int v1)]) (st' := [.ref v0, .int v1]) rfl ?_
  refine xZ.k_gI (me := xm100) hP_100 rfl (fun x1 => ?_)
  refine xZ.ic_ne (me := xm100) hP_100 rfl (fun h1 => ?_) (fun h1 => ?_)
  · skip
    refine xZ.adv (me := xm100) hP_100 2 (pc' := 36) (lv' := [(0, .ref v0), (1, .int v1)]) (st' := [.int (1 : Int32)]) rfl ?_
    exact xZ.rete (me := xm100) hP_100 rfl rfl rfl
  · skip
    refine xZ.adv (me := xm100) hP_100 1 (pc' := 36) (lv' := [(0, .ref v0), (1, .int v1)]) (st' := [.int (0 : Int32)]) rfl ?_
    exact xZ.rete (me := xm100) hP_100 rfl rfl rfl
def f_Rule_holds (O : Nat → Option va_E) (f : Nat) (v0 : Nat) (v1 : Int32) (M : xM) : Option (Int32 × xM) :=
  (gI O M v0 9 0).bind fun x1 =>
  if v1 < x1 then (
    f_Rule_holds_23 O f v0 v1 M
  ) else
  (gI O M v0 9 1).bind fun x2 =>
  if x2 = 0 then (
    f_Rule_holds_23 O f v0 v1 M
  ) else
  (gI O M v0 9 2).bind fun x3 =>
  if (1 : Int32) ≤ x3 then (
    (gI O M v0 9 1).bind fun x4 =>
    if x4 = (1 : Int32) then (
      (gI O M v0 9 0).bind fun x5 =>
      (gI O M v0 9 2).bind fun x6 =>
      if x6 = 0 then none else xlet ((v1 - x5) - (v1 - x5) / x6 * x6) fun x7 =>
      if x7 = 0 then (
        some ((1 : Int32), M)
      ) else
      some ((0 : Int32), M)
    ) else
    (gI O M v0 9 3).bind fun x8 =>
    xcl (f_Days_weekdayOf O f v1 M) fun x9 M1 =>
    if ((x8 >>> (x9 &&& 31)) &&& (1 : Int32)) = (1 : Int32) then (
      f_Rule_holds_85 O f v0 v1 (1 : Int32) M1
    ) else
    f_Rule_holds_85 O f v0 v1 (0 : Int32) M1
  ) else
  f_Rule_holds_23 O f v0 v1 M
set_option maxRecDepth 20000 in
theorem k_f_Rule_holds (O : Nat → Option va_E) (f d : Nat) (v0 : Nat) (v1 : Int32) (M : xM) : xZ oI O (d + 2) 100 0 [(0, .ref v0), (1, .int v1)] [] M (f_Rule_holds O f v0 v1 M) := by
  unfold f_Rule_holds
  refine xZ.adv (me := xm100) hP_100 2 (pc' := 2) (lv' := [(0, .ref v0), (1, .int v1)]) (st' := [.ref v0, .int v1]) rfl ?_
  refine xZ.k_gI (me := xm100) hP_100 rfl (fun x1 => ?_)
  refine xZ.ic_lt (me := xm100) hP_100 rfl (fun h1 => ?_) (fun h1 => ?_)
  · skip
    exact (k_f_Rule_holds_23 O f d v0 v1 M)
  · skip
    refine xZ.adv (me := xm100) hP_100 1 (pc' := 9) (lv' := [(0, .ref v0), (1, .int v1)]) (st' := [.ref v0]) rfl ?_
    refine xZ.k_gI (me := xm100) hP_100 rfl (fun x2 => ?_)
    refine xZ.if_eq (me := xm100) hP_100 rfl (fun h2 => ?_) (fun h2 => ?_)
    · skip
      exact (k_f_Rule_holds_23 O f d v0 v1 M)
    · skip
      refine xZ.adv (me := xm100) hP_100 1 (pc' := 16) (lv' := [(0, .ref v0), (1, .int v1)]) (st' := [.ref v0]) rfl ?_
      refine xZ.k_gI (me := xm100) hP_100 rfl (fun x3 => ?_)
      refine xZ.adv (me := xm100) hP_100 1 (pc' := 20) (lv' := [(0, .ref v0), (1, .int v1)]) (st' := [.int (1 : Int32), .int x3]) rfl ?_
      refine xZ.ic_ge (me := xm100) hP_100 rfl (fun h3 => ?_) (fun h3 => ?_)
      · skip
        refine xZ.adv (me := xm100) hP_100 1 (pc' := 38) (lv' := [(0, .ref v0), (1, .int v1)]) (st' := [.ref v0]) rfl ?_
        refine xZ.k_gI (me := xm100) hP_100 rfl (fun x4 => ?_)
        refine xZ.adv (me := xm100) hP_100 1 (pc' := 42) (lv' := [(0, .ref v0), (1, .int v1)]) (st' := [.int (1 : Int32), .int x4]) rfl ?_
        refine xZ.ic_ne (me := xm100) hP_100 rfl (fun h4 => ?_) (fun h4 => ?_)
        · skip
          refine xZ.adv (me := xm100) hP_100 2 (pc' := 47) (lv' := [(0, .ref v0), (1, .int v1)]) (st' := [.ref v0, .int v1]) rfl ?_
          refine xZ.k_gI (me := xm100) hP_100 rfl (fun x5 => ?_)
          refine xZ.adv (me := xm100) hP_100 2 (pc' := 52) (lv' := [(0, .ref v0), (1, .int v1)]) (st' := [.ref v0, .int (v1 - x5)]) rfl ?_
          refine xZ.k_gI (me := xm100) hP_100 rfl (fun x6 => ?_)
          refine xZ.rem (me := xm100) hP_100 rfl (fun x7 => ?_)
          refine xZ.if_ne (me := xm100) hP_100 rfl (fun h5 => ?_) (fun h5 => ?_)
          · skip
            refine xZ.adv (me := xm100) hP_100 2 (pc' := 64) (lv' := [(0, .ref v0), (1, .int v1)]) (st' := [.int (1 : Int32)]) rfl ?_
            exact xZ.rete (me := xm100) hP_100 rfl rfl rfl
          · skip
            refine xZ.adv (me := xm100) hP_100 1 (pc' := 64) (lv' := [(0, .ref v0), (1, .int v1)]) (st' := [.int (0 : Int32)]) rfl ?_
            exact xZ.rete (me := xm100) hP_100 rfl rfl rfl
        · skip
          refine xZ.adv (me := xm100) hP_100 1 (pc' := 66) (lv' := [(0, .ref v0), (1, .int v1)]) (st' := [.ref v0]) rfl ?_
          refine xZ.k_gI (me := xm100) hP_100 rfl (fun x8 => ?_)
          refine xZ.adv (me := xm100) hP_100 1 (pc' := 70) (lv' := [(0, .ref v0), (1, .int v1)]) (st' := [.int v1, .int x8]) rfl ?_
          refine xZ.calls (κ := oI) (av := [.int v1]) (rest := [.int x8]) (st' := fun x9 => [.int x9, .int x8]) (me := xm100) hP_100 rfl rfl rfl (Nat.le_of_ble_eq_true rfl) (by decide) hP_49 (Nat.le_of_ble_eq_true rfl) (fun _ => rfl) (k_f_Days_weekdayOf O f (d + 1) v1 M) (fun x9 M1 => ?_)
          refine xZ.adv (me := xm100) hP_100 4 (pc' := 77) (lv' := [(0, .ref v0), (1, .int v1)]) (st' := [.int (1 : Int32), .int ((x8 >>> (x9 &&& 31)) &&& (1 : Int32))]) rfl ?_
          refine xZ.ic_ne (me := xm100) hP_100 rfl (fun h6 => ?_) (fun h6 => ?_)
          · skip
            refine xZ.adv (me := xm100) hP_100 2 (pc' := 85) (lv' := [(0, .ref v0), (1, .int v1)]) (st' := [.int (1 : Int32)]) rfl ?_
            exact (k_f_Rule_holds_85 O f d v0 v1 (1 : Int32) M1)
          · skip
            refine xZ.adv (me := xm100) hP_100 1 (pc' := 85) (lv' := [(0, .ref v0), (1, .int v1)]) (st' := [.int (0 : Int32)]) rfl ?_
            exact (k_f_Rule_holds_85 O f d v0 v1 (0 : Int32) M1)
      · skip
        exact (k_f_Rule_holds_23 O f d v0 v1 M)
def f_Rule_isDay (O : Nat → Option va_E) (f : Nat) (v0 : Nat) (v1 : Int32) (M : xM) : Option (Int32 × xM) :=
  (gI O M v0 9 0).bind fun x1 =>
  if v1 < x1 then (
    some ((0 : Int32), M)
  ) else
  (gI O M v0 9 7).bind fun x2 =>
  if x2 < v1 then (
    some ((0 : Int32), M)
  ) else
  (isO O M v0 9).bind fun _ =>
  xcl (f_Rule_holds O f v0 v1 M) fun x3 M1 =>
  if x3 = 0 then (
    some ((0 : Int32), M1)
  ) else
  some ((1 : Int32), M1)
set_option maxRecDepth 20000 in
theorem k_f_Rule_isDay (O : Nat → Option va_E) (f d : Nat) (v0 : Nat) (v1 : Int32) (M : xM) : xZ oI O (d + 3) 99 0 [(0, .ref v0), (1, .int v1)] [] M (f_Rule_isDay O f v0 v1 M) := by
  unfold f_Rule_isDay
  refine xZ.adv (me := xm99) hP_99 2 (pc' := 2) (lv' := [(0, .ref v0), (1, .int v1)]) (st' := [.ref v0, .int v1]) rfl ?_
  refine xZ.k_gI (me := xm99) hP_99 rfl (fun x1 => ?_)
  refine xZ.ic_lt (me := xm99) hP_99 rfl (fun h1 => ?_) (fun h1 => ?_)
  · skip
    refine xZ.adv (me := xm99) hP_99 1 (pc' := 29) (lv' := [(0, .ref v0), (1, .int v1)]) (st' := [.int (0 : Int32)]) rfl ?_
    exact xZ.rete (me := xm99) hP_99 rfl rfl rfl
  · skip
    refine xZ.adv (me := xm99) hP_99 2 (pc' := 10) (lv' := [(0, .ref v0), (1, .int v1)]) (st' := [.ref v0, .int v1]) rfl ?_
    refine xZ.k_gI (me := xm99) hP_99 rfl (fun x2 => ?_)
    refine xZ.ic_gt (me := xm99) hP_99 rfl (fun h2 => ?_) (fun h2 => ?_)
    · skip
      refine xZ.adv (me := xm99) hP_99 1 (pc' := 29) (lv' := [(0, .ref v0), (1, .int v1)]) (st' := [.int (0 : Int32)]) rfl ?_
      exact xZ.rete (me := xm99) hP_99 rfl rfl rfl
    · skip
      refine xZ.adv (me := xm99) hP_99 2 (pc' := 18) (lv' := [(0, .ref v0), (1, .int v1)]) (st' := [.int v1, .ref v0]) rfl ?_
      refine xZ.callv (κ := oI) (av := [.int v1]) (rest := []) (st' := fun x3 => [.int x3]) (k0 := v0) (me := xm99) hP_99 rfl (Or.inl rfl) ⟨rfl, by decide⟩ rfl rfl (Nat.le_of_ble_eq_true rfl) (by decide) hP_100 (Nat.le_of_ble_eq_true rfl) (fun _ => rfl) (k_f_Rule_holds O f (d + 0) v0 v1 M) (fun x3 M1 => ?_)
      refine xZ.if_eq (me := xm99) hP_99 rfl (fun h3 => ?_) (fun h3 => ?_)
      · skip
        refine xZ.adv (me := xm99) hP_99 1 (pc' := 29) (lv' := [(0, .ref v0), (1, .int v1)]) (st' := [.int (0 : Int32)]) rfl ?_
        exact xZ.rete (me := xm99) hP_99 rfl rfl rfl
      · skip
        refine xZ.adv (me := xm99) hP_99 2 (pc' := 29) (lv' := [(0, .ref v0), (1, .int v1)]) (st' := [.int (1 : Int32)]) rfl ?_
        exact xZ.rete (me := xm99) hP_99 rfl rfl rfl
def f_Hall_zoneOf (O : Nat → Option va_E) (f : Nat) (v0 : Nat) (v1 : Nat) (M : xM) : Option (Nat × xM) :=
  (gI O M v1 10 1).bind fun x1 =>
  (isO O M v0 4).bind fun _ =>
  xcl (f_Hall_anyZone O f v0 x1 M) fun x2 M1 =>
  some (x2, M1)
set_option maxRecDepth 20000 in
theorem k_f_Hall_zoneOf (O : Nat → Option va_E) (f d : Nat) (v0 : Nat) (v1 : Nat) (M : xM) : xZ oR O (d + 1) 102 0 [(0, .ref v0), (1, .ref v1)] [] M (f_Hall_zoneOf O f v0 v1 M) := by
  unfold f_Hall_zoneOf
  refine xZ.adv (me := xm102) hP_102 2 (pc' := 2) (lv' := [(0, .ref v0), (1, .ref v1)]) (st' := [.ref v1, .ref v0]) rfl ?_
  refine xZ.k_gI (me := xm102) hP_102 rfl (fun x1 => ?_)
  refine xZ.callv (κ := oR) (av := [.int x1]) (rest := []) (st' := fun x2 => [.ref x2]) (k0 := v0) (me := xm102) hP_102 rfl (Or.inl rfl) ⟨rfl, by decide⟩ rfl rfl (Nat.le_of_ble_eq_true rfl) (by decide) hP_21 (Nat.le_of_ble_eq_true rfl) (fun _ => rfl) (k_f_Hall_anyZone O f (d + 0) v0 x1 M) (fun x2 M1 => ?_)
  exact xZ.retr (me := xm102) hP_102 rfl rfl rfl
def f_Series_exceptionOf_2 (O : Nat → Option va_E) (f : Nat) : Nat → Nat → Int32 → Int32 → xM → Option (Int32 × xM)
  | 0, _, _, _, _ => none
  | n + 1, v0, v1, v2, M =>
    (gI O M v0 10 7).bind fun x1 =>
    if x1 ≤ v2 then (
      some ((-1 : Int32), M)
    ) else
    (gR O M v0 10 8).bind fun x2 =>
    (aN O M x2).bind fun x3 =>
    if x3 ≤ v2 then (
      some ((-1 : Int32), M)
    ) else
    (gR O M v0 10 8).bind fun x4 =>
    (aI O M x4 v2).bind fun x5 =>
    if x5 = v1 then (
      some (v2, M)
    ) else
    f_Series_exceptionOf_2 O f n v0 v1 (v2 + (1 : Int32)) M
set_option maxRecDepth 20000 in
theorem k_f_Series_exceptionOf_2 (O : Nat → Option va_E) (f d : Nat) : ∀ (n : Nat) (v0 : Nat) (v1 : Int32) (v2 : Int32) (M : xM), xZ oI O (d + 0) 104 2 [(0, .ref v0), (1, .int v1), (2, .int v2)] [] M (f_Series_exceptionOf_2 O f n v0 v1 v2 M) := by
  intro n
  induction n with
  | zero =>
    intro v0 v1 v2 M
    exact xZ.no
  | succ n ih =>
    intro v0 v1 v2 M
    unfold f_Series_exceptionOf_2
    refine xZ.adv (me := xm104) hP_104 2 (pc' := 4) (lv' := [(0, .ref v0), (1, .int v1), (2, .int v2)]) (st' := [.ref v0, .int v2]) rfl ?_
    refine xZ.k_gI (me := xm104) hP_104 rfl (fun x1 => ?_)
    refine xZ.ic_ge (me := xm104) hP_104 rfl (fun h1 => ?_) (fun h1 => ?_)
    · skip
      refine xZ.adv (me := xm104) hP_104 1 (pc' := 38) (lv' := [(0, .ref v0), (1, .int v1), (2, .int v2)]) (st' := [.int (-1 : Int32)]) rfl ?_
      exact xZ.reti (me := xm104) hP_104 rfl rfl
    · skip
      refine xZ.adv (me := xm104) hP_104 2 (pc' := 12) (lv' := [(0, .ref v0), (1, .int v1), (2, .int v2)]) (st' := [.ref v0, .int v2]) rfl ?_
      refine xZ.k_gR (me := xm104) hP_104 rfl (fun x2 => ?_)
      refine xZ.k_aN (me := xm104) hP_104 rfl (fun x3 => ?_)
      refine xZ.ic_ge (me := xm104) hP_104 rfl (fun h2 => ?_) (fun h2 => ?_)
      · skip
        refine xZ.adv (me := xm104) hP_104 1 (pc' := 38) (lv' := [(0, .ref v0), (1, .int v1), (2, .int v2)]) (st' := [.int (-1 : Int32)]) rfl ?_
        exact xZ.reti (me := xm104) hP_104 rfl rfl
      · skip
        refine xZ.adv (me := xm104) hP_104 1 (pc' := 20) (lv' := [(0, .ref v0), (1, .int v1), (2, .int v2)]) (st' := [.ref v0]) rfl ?_
        refine xZ.k_gR (me := xm104) hP_104 rfl (fun x4 => ?_)
        refine xZ.adv (me := xm104) hP_104 1 (pc' := 24) (lv' := [(0, .ref v0), (1, .int v1), (2, .int v2)]) (st' := [.int v2, .ref x4]) rfl ?_
        refine xZ.k_aI (me := xm104) hP_104 rfl (fun x5 => ?_)
        refine xZ.adv (me := xm104) hP_104 1 (pc' := 26) (lv' := [(0, .ref v0), (1, .int v1), (2, .int v2)]) (st' := [.int v1, .int x5]) rfl ?_
        refine xZ.ic_ne (me := xm104) hP_104 rfl (fun h3 => ?_) (fun h3 => ?_)
        · skip
          refine xZ.adv (me := xm104) hP_104 1 (pc' := 30) (lv' := [(0, .ref v0), (1, .int v1), (2, .int v2)]) (st' := [.int v2]) rfl ?_
          exact xZ.reti (me := xm104) hP_104 rfl rfl
        · skip
          refine xZ.adv (me := xm104) hP_104 2 (pc' := 2) (lv' := [(2, .int (v2 + (1 : Int32))), (0, .ref v0), (1, .int v1)]) (st' := []) rfl ?_
          exact xZ.sub (xsc (.tail _ (.head _)) (xsc (.tail _ (.tail _ (.head _))) (xsc (.head _) xsn))) (show ([2, 0, 1] : List Nat).Nodup from by decide) (ih v0 v1 (v2 + (1 : Int32)) M)
def f_Series_exceptionOf (O : Nat → Option va_E) (f : Nat) (v0 : Nat) (v1 : Int32) (M : xM) : Option (Int32 × xM) :=
  f_Series_exceptionOf_2 O f f v0 v1 (0 : Int32) M
set_option maxRecDepth 20000 in
theorem k_f_Series_exceptionOf (O : Nat → Option va_E) (f d : Nat) (v0 : Nat) (v1 : Int32) (M : xM) : xZ oI O (d + 0) 104 0 [(0, .ref v0), (1, .int v1)] [] M (f_Series_exceptionOf O f v0 v1 M) := by
  unfold f_Series_exceptionOf
  refine xZ.adv (me := xm104) hP_104 2 (pc' := 2) (lv' := [(2, .int (0 : Int32)), (0, .ref v0), (1, .int v1)]) (st' := []) rfl ?_
  exact xZ.sub (xsc (.tail _ (.head _)) (xsc (.tail _ (.tail _ (.head _))) (xsc (.head _) xsn))) (show ([2, 0, 1] : List Nat).Nodup from by decide) (k_f_Series_exceptionOf_2 O f d f v0 v1 (0 : Int32) M)
def f_Zone_switchIn_51 (O : Nat → Option va_E) (f : Nat) (v1 : Nat) (v3 : Int32) (M : xM) : Option (Int32 × xM) :=
  (aI O M v1 (3 : Int32)).bind fun x1 =>
  some (((v3 * (1440 : Int32)) + x1), M)
set_option maxRecDepth 20000 in
theorem k_f_Zone_switchIn_51 (O : Nat → Option va_E) (f d : Nat) (v1 : Nat) (v3 : Int32) (M : xM) : xZ oI O (d + 1) 107 51 [(1, .ref v1), (3, .int v3)] [] M (f_Zone_switchIn_51 O f v1 v3 M) := by
  unfold f_Zone_switchIn_51
  refine xZ.adv (me := xm107) hP_107 5 (pc' := 58) (lv' := [(1, .ref v1), (3, .int v3)]) (st' := [.int (3 : Int32), .ref v1, .int (v3 * (1440 : Int32))]) rfl ?_
  refine xZ.k_aI (me := xm107) hP_107 rfl (fun x1 => ?_)
  refine xZ.adv (me := xm107) hP_107 1 (pc' := 60) (lv' := [(1, .ref v1), (3, .int v3)]) (st' := [.int ((v3 * (1440 : Int32)) + x1)]) rfl ?_
  exact xZ.reti (me := xm107) hP_107 rfl rfl
def f_Zone_switchIn (O : Nat → Option va_E) (f : Nat) (v0 : Int32) (v1 : Nat) (M : xM) : Option (Int32 × xM) :=
  (aN O M v1).bind fun x1 =>
  if (4 : Int32) ≤ x1 then (
    xcl (f_Days_monthBegin O f v0 M) fun x2 M1 =>
    (aI O M1 v1 (2 : Int32)).bind fun x3 =>
    xcl (f_Math_floorMod O f ((x3 - x2) - (5 : Int32)) (7 : Int32) M1) fun x4 M2 =>
    (aI O M2 v1 (1 : Int32)).bind fun x5 =>
    xlet ((x2 + x4) + ((7 : Int32) * (x5 - (1 : Int32)))) fun x6 =>
    none
  ) else
  some ((1000000000 : Int32), M)
set_option maxRecDepth 20000 in
theorem k_f_Zone_switchIn (O : Nat → Option va_E) (f d : Nat) (v0 : Int32) (v1 : Nat) (M : xM) : xZ oI O (d + 1) 107 0 [(0, .int v0), (1, .ref v1)] [] M (f_Zone_switchIn O f v0 v1 M) := by
  unfold f_Zone_switchIn
  refine xZ.adv (me := xm107) hP_107 1 (pc' := 1) (lv' := [(0, .int v0), (1, .ref v1)]) (st' := [.ref v1]) rfl ?_
  refine xZ.k_aN (me := xm107) hP_107 rfl (fun x1 => ?_)
  refine xZ.adv (me := xm107) hP_107 1 (pc' := 3) (lv' := [(0, .int v0), (1, .ref v1)]) (st' := [.int (4 : Int32), .int x1]) rfl ?_
  refine xZ.ic_ge (me := xm107) hP_107 rfl (fun h1 => ?_) (fun h1 => ?_)
  · skip
    refine xZ.adv (me := xm107) hP_107 1 (pc' := 10) (lv' := [(0, .int v0), (1, .ref v1)]) (st' := [.int v0]) rfl ?_
    refine xZ.calls (κ := oI) (av := [.int v0]) (rest := []) (st' := fun x2 => [.int x2]) (me := xm107) hP_107 rfl rfl rfl (Nat.le_of_ble_eq_true rfl) (by decide) hP_54 (Nat.le_of_ble_eq_true rfl) (fun _ => rfl) (k_f_Days_monthBegin O f (d + 0) v0 M) (fun x2 M1 => ?_)
    refine xZ.adv (me := xm107) hP_107 4 (pc' := 17) (lv' := [(2, .int x2), (0, .int v0), (1, .ref v1)]) (st' := [.int (2 : Int32), .ref v1, .int x2]) rfl ?_
    refine xZ.k_aI (me := xm107) hP_107 rfl (fun x3 => ?_)
    refine xZ.adv (me := xm107) hP_107 5 (pc' := 24) (lv' := [(2, .int x2), (0, .int v0), (1, .ref v1)]) (st' := [.int (7 : Int32), .int ((x3 - x2) - (5 : Int32)), .int x2]) rfl ?_
    refine xZ.calls (κ := oI) (av := [.int ((x3 - x2) - (5 : Int32)), .int (7 : Int32)]) (rest := [.int x2]) (st' := fun x4 => [.int x4, .int x2]) (me := xm107) hP_107 rfl rfl rfl (Nat.le_of_ble_eq_true rfl) (by decide) hP_250 (Nat.le_of_ble_eq_true rfl) (fun _ => rfl) (k_f_Math_floorMod O f (d + 0) ((x3 - x2) - (5 : Int32)) (7 : Int32) M1) (fun x4 M2 => ?_)
    refine xZ.adv (me := xm107) hP_107 4 (pc' := 32) (lv' := [(2, .int x2), (0, .int v0), (1, .ref v1)]) (st' := [.int (1 : Int32), .ref v1, .int (7 : Int32), .int (x2 + x4)]) rfl ?_
    refine xZ.k_aI (me := xm107) hP_107 rfl (fun x5 => ?_)
    refine xZ.adv (me := xm107) hP_107 5 (pc' := 38) (lv' := [(3, .int ((x2 + x4) + ((7 : Int32) * (x5 - (1 : Int32))))), (2, .int x2), (0, .int v0), (1, .ref v1)]) (st' := []) rfl ?_
    refine xZ.letI (v := ((x2 + x4) + ((7 : Int32) * (x5 - (1 : Int32))))) (lvf := fun x6 => [(3, .int x6), (2, .int x2), (0, .int v0), (1, .ref v1)]) (stf := fun x6 => []) ?_
    intro x6
    exact xZ.no
  · skip
    refine xZ.adv (me := xm107) hP_107 1 (pc' := 8) (lv' := [(0, .int v0), (1, .ref v1)]) (st' := [.int (1000000000 : Int32)]) rfl ?_
    exact xZ.reti (me := xm107) hP_107 rfl rfl
def f_Zone_isSummer_150 (O : Nat → Option va_E) (f : Nat) (s0 : Int32) (s1 : Int32) (M : xM) : Option (Int32 × xM) :=
  if s0 = s1 then (
    some ((1 : Int32), M)
  ) else
  some ((0 : Int32), M)
set_option maxRecDepth 20000 in
theorem k_f_Zone_isSummer_150 (O : Nat → Option va_E) (f d : Nat) (s0 : Int32) (s1 : Int32) (M : xM) : xZ oI O (d + 2) 106 150 [] [.int s1, .int s0] M (f_Zone_isSummer_150 O f s0 s1 M) := by
  unfold f_Zone_isSummer_150
  refine xZ.ic_ne (me := xm106) hP_106 rfl (fun h1 => ?_) (fun h1 => ?_)
  · skip
    refine xZ.adv (me := xm106) hP_106 2 (pc' := 158) (lv' := []) (st' := [.int (1 : Int32)]) rfl ?_
    exact xZ.rete (me := xm106) hP_106 rfl rfl rfl
  · skip
    refine xZ.adv (me := xm106) hP_106 1 (pc' := 158) (lv' := []) (st' := [.int (0 : Int32)]) rfl ?_
    exact xZ.rete (me := xm106) hP_106 rfl rfl rfl
def f_Zone_isSummer_126 (O : Nat → Option va_E) (f : Nat) (v0 : Nat) (s0 : Int32) (M : xM) : Option (Int32 × xM) :=
  (gR O M v0 11 2).bind fun x1 =>
  (aI O M x1 (0 : Int32)).bind fun x2 =>
  (gR O M v0 11 3).bind fun x3 =>
  (aI O M x3 (0 : Int32)).bind fun x4 =>
  if x4 ≤ x2 then (
    f_Zone_isSummer_150 O f s0 (0 : Int32) M
  ) else
  f_Zone_isSummer_150 O f s0 (1 : Int32) M
set_option maxRecDepth 20000 in
theorem k_f_Zone_isSummer_126 (O : Nat → Option va_E) (f d : Nat) (v0 : Nat) (s0 : Int32) (M : xM) : xZ oI O (d + 2) 106 126 [(0, .ref v0)] [.int s0] M (f_Zone_isSummer_126 O f v0 s0 M) := by
  unfold f_Zone_isSummer_126
  refine xZ.adv (me := xm106) hP_106 3 (pc' := 131) (lv' := [(4, .int s0), (0, .ref v0)]) (st' := [.ref v0, .int s0]) rfl ?_
  refine xZ.k_gR (me := xm106) hP_106 rfl (fun x1 => ?_)
  refine xZ.adv (me := xm106) hP_106 1 (pc' := 135) (lv' := [(4, .int s0), (0, .ref v0)]) (st' := [.int (0 : Int32), .ref x1, .int s0]) rfl ?_
  refine xZ.k_aI (me := xm106) hP_106 rfl (fun x2 => ?_)
  refine xZ.adv (me := xm106) hP_106 1 (pc' := 137) (lv' := [(4, .int s0), (0, .ref v0)]) (st' := [.ref v0, .int x2, .int s0]) rfl ?_
  refine xZ.k_gR (me := xm106) hP_106 rfl (fun x3 => ?_)
  refine xZ.adv (me := xm106) hP_106 1 (pc' := 141) (lv' := [(4, .int s0), (0, .ref v0)]) (st' := [.int (0 : Int32), .ref x3, .int x2, .int s0]) rfl ?_
  refine xZ.k_aI (me := xm106) hP_106 rfl (fun x4 => ?_)
  refine xZ.ic_ge (me := xm106) hP_106 rfl (fun h1 => ?_) (fun h1 => ?_)
  · skip
    refine xZ.adv (me := xm106) hP_106 1 (pc' := 150) (lv' := [(4, .int s0), (0, .ref v0)]) (st' := [.int (0 : Int32), .int s0]) rfl ?_
    exact xZ.sub xsn (show ([4, 0] : List Nat).Nodup from by decide) (k_f_Zone_isSummer_150 O f d s0 (0 : Int32) M)
  · skip
    refine xZ.adv (me := xm106) hP_106 2 (pc' := 150) (lv' := [(4, .int s0), (0, .ref v0)]) (st' := [.int (1 : Int32), .int s0]) rfl ?_
    exact xZ.sub xsn (show ([4, 0] : List Nat).Nodup from by decide) (k_f_Zone_isSummer_150 O f d s0 (1 : Int32) M)
def f_Zone_isSummer_125 (O : Nat → Option va_E) (f : Nat) (v0 : Nat) (M : xM) : Option (Int32 × xM) :=
  f_Zone_isSummer_126 O f v0 (0 : Int32) M
set_option maxRecDepth 20000 in
theorem k_f_Zone_isSummer_125 (O : Nat → Option va_E) (f d : Nat) (v0 : Nat) (M : xM) : xZ oI O (d + 2) 106 125 [(0, .ref v0)] [] M (f_Zone_isSummer_125 O f v0 M) := by
  unfold f_Zone_isSummer_125
  refine xZ.adv (me := xm106) hP_106 1 (pc' := 126) (lv' := [(0, .ref v0)]) (st' := [.int (0 : Int32)]) rfl ?_
  exact (k_f_Zone_isSummer_126 O f d v0 (0 : Int32) M)
def f_Zone_isSummer (O : Nat → Option va_E) (f : Nat) (v0 : Nat) (v1 : Int32) (M : xM) : Option (Int32 × xM) :=
  (gI O M v0 11 1).bind fun x1 =>
  if x1 = 0 then (
    some ((0 : Int32), M)
  ) else
  xcl (f_Math_floorDiv O f v1 (1440 : Int32) M) fun x2 M1 =>
  xcl (f_Days_monthOf O f x2 M1) fun x3 M2 =>
  xlet ((x3 - x3 / (12 : Int32) * (12 : Int32)) + (1 : Int32)) fun x4 =>
  none
set_option maxRecDepth 20000 in
theorem k_f_Zone_isSummer (O : Nat → Option va_E) (f d : Nat) (v0 : Nat) (v1 : Int32) (M : xM) : xZ oI O (d + 2) 106 0 [(0, .ref v0), (1, .int v1)] [] M (f_Zone_isSummer O f v0 v1 M) := by
  unfold f_Zone_isSummer
  refine xZ.adv (me := xm106) hP_106 1 (pc' := 1) (lv' := [(0, .ref v0), (1, .int v1)]) (st' := [.ref v0]) rfl ?_
  refine xZ.k_gI (me := xm106) hP_106 rfl (fun x1 => ?_)
  refine xZ.if_ne (me := xm106) hP_106 rfl (fun h1 => ?_) (fun h1 => ?_)
  · skip
    refine xZ.adv (me := xm106) hP_106 1 (pc' := 8) (lv' := [(0, .ref v0), (1, .int v1)]) (st' := [.int (0 : Int32)]) rfl ?_
    exact xZ.rete (me := xm106) hP_106 rfl rfl rfl
  · skip
    refine xZ.adv (me := xm106) hP_106 2 (pc' := 13) (lv' := [(0, .ref v0), (1, .int v1)]) (st' := [.int (1440 : Int32), .int v1]) rfl ?_
    refine xZ.calls (κ := oI) (av := [.int v1, .int (1440 : Int32)]) (rest := []) (st' := fun x2 => [.int x2]) (me := xm106) hP_106 rfl rfl rfl (Nat.le_of_ble_eq_true rfl) (by decide) hP_251 (Nat.le_of_ble_eq_true rfl) (fun _ => rfl) (k_f_Math_floorDiv O f (d + 1) v1 (1440 : Int32) M) (fun x2 M1 => ?_)
    refine xZ.calls (κ := oI) (av := [.int x2]) (rest := []) (st' := fun x3 => [.int x3]) (me := xm106) hP_106 rfl rfl rfl (Nat.le_of_ble_eq_true rfl) (by decide) hP_52 (Nat.le_of_ble_eq_true rfl) (fun _ => rfl) (k_f_Days_monthOf O f (d + 1) x2 M1) (fun x3 M2 => ?_)
    refine xZ.adv (me := xm106) hP_106 7 (pc' := 27) (lv' := [(3, .int ((x3 - x3 / (12 : Int32) * (12 : Int32)) + (1 : Int32))), (2, .int x3), (0, .ref v0), (1, .int v1)]) (st' := []) rfl ?_
    refine xZ.letI (v := ((x3 - x3 / (12 : Int32) * (12 : Int32)) + (1 : Int32))) (lvf := fun x4 => [(3, .int x4), (2, .int x3), (0, .ref v0), (1, .int v1)]) (stf := fun x4 => []) ?_
    intro x4
    exact xZ.no
def f_Zone_commonOf (O : Nat → Option va_E) (f : Nat) (v0 : Nat) (v1 : Int32) (M : xM) : Option (Int32 × xM) :=
  (gI O M v0 11 1).bind fun x1 =>
  (isO O M v0 11).bind fun _ =>
  xcl (f_Zone_isSummer O f v0 (v1 - x1) M) fun x2 M1 =>
  if x2 = 0 then (
    (gI O M1 v0 11 0).bind fun x3 =>
    some ((v1 - x3), M1)
  ) else
  (gI O M1 v0 11 1).bind fun x4 =>
  (gI O M1 v0 11 0).bind fun x5 =>
  some (((v1 - x4) - x5), M1)
set_option maxRecDepth 20000 in
theorem k_f_Zone_commonOf (O : Nat → Option va_E) (f d : Nat) (v0 : Nat) (v1 : Int32) (M : xM) : xZ oI O (d + 3) 105 0 [(0, .ref v0), (1, .int v1)] [] M (f_Zone_commonOf O f v0 v1 M) := by
  unfold f_Zone_commonOf
  refine xZ.adv (me := xm105) hP_105 3 (pc' := 3) (lv' := [(0, .ref v0), (1, .int v1)]) (st' := [.ref v0, .int v1, .ref v0]) rfl ?_
  refine xZ.k_gI (me := xm105) hP_105 rfl (fun x1 => ?_)
  refine xZ.adv (me := xm105) hP_105 1 (pc' := 7) (lv' := [(0, .ref v0), (1, .int v1)]) (st' := [.int (v1 - x1), .ref v0]) rfl ?_
  refine xZ.callv (κ := oI) (av := [.int (v1 - x1)]) (rest := []) (st' := fun x2 => [.int x2]) (k0 := v0) (me := xm105) hP_105 rfl (Or.inl rfl) ⟨rfl, by decide⟩ rfl rfl (Nat.le_of_ble_eq_true rfl) (by decide) hP_106 (Nat.le_of_ble_eq_true rfl) (fun _ => rfl) (k_f_Zone_isSummer O f (d + 0) v0 (v1 - x1) M) (fun x2 M1 => ?_)
  refine xZ.if_eq (me := xm105) hP_105 rfl (fun h1 => ?_) (fun h1 => ?_)
  · skip
    refine xZ.adv (me := xm105) hP_105 2 (pc' := 29) (lv' := [(0, .ref v0), (1, .int v1)]) (st' := [.ref v0, .int v1]) rfl ?_
    refine xZ.k_gI (me := xm105) hP_105 rfl (fun x3 => ?_)
    refine xZ.adv (me := xm105) hP_105 1 (pc' := 33) (lv' := [(0, .ref v0), (1, .int v1)]) (st' := [.int (v1 - x3)]) rfl ?_
    exact xZ.reti (me := xm105) hP_105 rfl rfl
  · skip
    refine xZ.adv (me := xm105) hP_105 2 (pc' := 15) (lv' := [(0, .ref v0), (1, .int v1)]) (st' := [.ref v0, .int v1]) rfl ?_
    refine xZ.k_gI (me := xm105) hP_105 rfl (fun x4 => ?_)
    refine xZ.adv (me := xm105) hP_105 2 (pc' := 20) (lv' := [(0, .ref v0), (1, .int v1)]) (st' := [.ref v0, .int (v1 - x4)]) rfl ?_
    refine xZ.k_gI (me := xm105) hP_105 rfl (fun x5 => ?_)
    refine xZ.adv (me := xm105) hP_105 2 (pc' := 33) (lv' := [(0, .ref v0), (1, .int v1)]) (st' := [.int ((v1 - x4) - x5)]) rfl ?_
    exact xZ.reti (me := xm105) hP_105 rfl rfl
def f_Series_exceptionTo (O : Nat → Option va_E) (f : Nat) (v0 : Nat) (v1 : Int32) (M : xM) : Option (Int32 × xM) :=
  if v1 < 0 then (
    some ((-1 : Int32), M)
  ) else
  (gR O M v0 10 9).bind fun x1 =>
  (aN O M x1).bind fun x2 =>
  if x2 ≤ v1 then (
    some ((-1 : Int32), M)
  ) else
  (gR O M v0 10 9).bind fun x3 =>
  (aI O M x3 v1).bind fun x4 =>
  some (x4, M)
set_option maxRecDepth 20000 in
theorem k_f_Series_exceptionTo (O : Nat → Option va_E) (f d : Nat) (v0 : Nat) (v1 : Int32) (M : xM) : xZ oI O (d + 0) 108 0 [(0, .ref v0), (1, .int v1)] [] M (f_Series_exceptionTo O f v0 v1 M) := by
  unfold f_Series_exceptionTo
  refine xZ.adv (me := xm108) hP_108 1 (pc' := 1) (lv' := [(0, .ref v0), (1, .int v1)]) (st' := [.int v1]) rfl ?_
  refine xZ.if_lt (me := xm108) hP_108 rfl (fun h1 => ?_) (fun h1 => ?_)
  · skip
    refine xZ.adv (me := xm108) hP_108 1 (pc' := 23) (lv' := [(0, .ref v0), (1, .int v1)]) (st' := [.int (-1 : Int32)]) rfl ?_
    exact xZ.reti (me := xm108) hP_108 rfl rfl
  · skip
    refine xZ.adv (me := xm108) hP_108 2 (pc' := 6) (lv' := [(0, .ref v0), (1, .int v1)]) (st' := [.ref v0, .int v1]) rfl ?_
    refine xZ.k_gR (me := xm108) hP_108 rfl (fun x1 => ?_)
    refine xZ.k_aN (me := xm108) hP_108 rfl (fun x2 => ?_)
    refine xZ.ic_ge (me := xm108) hP_108 rfl (fun h2 => ?_) (fun h2 => ?_)
    · skip
      refine xZ.adv (me := xm108) hP_108 1 (pc' := 23) (lv' := [(0, .ref v0), (1, .int v1)]) (st' := [.int (-1 : Int32)]) rfl ?_
      exact xZ.reti (me := xm108) hP_108 rfl rfl
    · skip
      refine xZ.adv (me := xm108) hP_108 1 (pc' := 14) (lv' := [(0, .ref v0), (1, .int v1)]) (st' := [.ref v0]) rfl ?_
      refine xZ.k_gR (me := xm108) hP_108 rfl (fun x3 => ?_)
      refine xZ.adv (me := xm108) hP_108 1 (pc' := 18) (lv' := [(0, .ref v0), (1, .int v1)]) (st' := [.int v1, .ref x3]) rfl ?_
      refine xZ.k_aI (me := xm108) hP_108 rfl (fun x4 => ?_)
      refine xZ.adv (me := xm108) hP_108 1 (pc' := 23) (lv' := [(0, .ref v0), (1, .int v1)]) (st' := [.int x4]) rfl ?_
      exact xZ.reti (me := xm108) hP_108 rfl rfl
def f_Series_beginOf (O : Nat → Option va_E) (f : Nat) (v0 : Nat) (v1 : Nat) (v2 : Int32) (M : xM) : Option (Int32 × xM) :=
  (isO O M v0 10).bind fun _ =>
  xcl (f_Series_exceptionOf O f v0 v2 M) fun x1 M1 =>
  if x1 = (-1 : Int32) then (
    (gI O M1 v0 10 2).bind fun x2 =>
    (isO O M1 v1 11).bind fun _ =>
    xcl (f_Zone_commonOf O f v1 ((v2 * (1440 : Int32)) + x2) M1) fun x3 M2 =>
    some (x3, M2)
  ) else
  (isO O M1 v0 10).bind fun _ =>
  xcl (f_Series_exceptionTo O f v0 x1 M1) fun x4 M3 =>
  if x4 = (-1 : Int32) then (
    some ((-1 : Int32), M3)
  ) else
  (isO O M3 v1 11).bind fun _ =>
  xcl (f_Zone_commonOf O f v1 x4 M3) fun x5 M4 =>
  some (x5, M4)
set_option maxRecDepth 20000 in
theorem k_f_Series_beginOf (O : Nat → Option va_E) (f d : Nat) (v0 : Nat) (v1 : Nat) (v2 : Int32) (M : xM) : xZ oI O (d + 4) 103 0 [(0, .ref v0), (1, .ref v1), (2, .int v2)] [] M (f_Series_beginOf O f v0 v1 v2 M) := by
  unfold f_Series_beginOf
  refine xZ.adv (me := xm103) hP_103 2 (pc' := 2) (lv' := [(0, .ref v0), (1, .ref v1), (2, .int v2)]) (st' := [.int v2, .ref v0]) rfl ?_
  refine xZ.callv (κ := oI) (av := [.int v2]) (rest := []) (st' := fun x1 => [.int x1]) (k0 := v0) (me := xm103) hP_103 rfl (Or.inl rfl) ⟨rfl, by decide⟩ rfl rfl (Nat.le_of_ble_eq_true rfl) (by decide) hP_104 (Nat.le_of_ble_eq_true rfl) (fun _ => rfl) (k_f_Series_exceptionOf O f (d + 3) v0 v2 M) (fun x1 M1 => ?_)
  refine xZ.adv (me := xm103) hP_103 3 (pc' := 8) (lv' := [(3, .int x1), (0, .ref v0), (1, .ref v1), (2, .int v2)]) (st' := [.int (-1 : Int32), .int x1]) rfl ?_
  refine xZ.ic_ne (me := xm103) hP_103 rfl (fun h1 => ?_) (fun h1 => ?_)
  · skip
    refine xZ.adv (me := xm103) hP_103 5 (pc' := 18) (lv' := [(3, .int x1), (0, .ref v0), (1, .ref v1), (2, .int v2)]) (st' := [.ref v0, .int (v2 * (1440 : Int32)), .ref v1]) rfl ?_
    refine xZ.k_gI (me := xm103) hP_103 rfl (fun x2 => ?_)
    refine xZ.adv (me := xm103) hP_103 1 (pc' := 22) (lv' := [(3, .int x1), (0, .ref v0), (1, .ref v1), (2, .int v2)]) (st' := [.int ((v2 * (1440 : Int32)) + x2), .ref v1]) rfl ?_
    refine xZ.callv (κ := oI) (av := [.int ((v2 * (1440 : Int32)) + x2)]) (rest := []) (st' := fun x3 => [.int x3]) (k0 := v1) (me := xm103) hP_103 rfl (Or.inl rfl) ⟨rfl, by decide⟩ rfl rfl (Nat.le_of_ble_eq_true rfl) (by decide) hP_105 (Nat.le_of_ble_eq_true rfl) (fun _ => rfl) (k_f_Zone_commonOf O f (d + 0) v1 ((v2 * (1440 : Int32)) + x2) M1) (fun x3 M2 => ?_)
    exact xZ.reti (me := xm103) hP_103 rfl rfl
  · skip
    refine xZ.adv (me := xm103) hP_103 2 (pc' := 28) (lv' := [(3, .int x1), (0, .ref v0), (1, .ref v1), (2, .int v2)]) (st' := [.int x1, .ref v0]) rfl ?_
    refine xZ.callv (κ := oI) (av := [.int x1]) (rest := []) (st' := fun x4 => [.int x4]) (k0 := v0) (me := xm103) hP_103 rfl (Or.inl rfl) ⟨rfl, by decide⟩ rfl rfl (Nat.le_of_ble_eq_true rfl) (by decide) hP_108 (Nat.le_of_ble_eq_true rfl) (fun _ => rfl) (k_f_Series_exceptionTo O f (d + 3) v0 x1 M1) (fun x4 M3 => ?_)
    refine xZ.adv (me := xm103) hP_103 3 (pc' := 36) (lv' := [(4, .int x4), (3, .int x1), (0, .ref v0), (1, .ref v1), (2, .int v2)]) (st' := [.int (-1 : Int32), .int x4]) rfl ?_
    refine xZ.ic_ne (me := xm103) hP_103 rfl (fun h2 => ?_) (fun h2 => ?_)
    · skip
      refine xZ.adv (me := xm103) hP_103 2 (pc' := 49) (lv' := [(4, .int x4), (3, .int x1), (0, .ref v0), (1, .ref v1), (2, .int v2)]) (st' := [.int (-1 : Int32)]) rfl ?_
      exact xZ.reti (me := xm103) hP_103 rfl rfl
    · skip
      refine xZ.adv (me := xm103) hP_103 2 (pc' := 46) (lv' := [(4, .int x4), (3, .int x1), (0, .ref v0), (1, .ref v1), (2, .int v2)]) (st' := [.int x4, .ref v1]) rfl ?_
      refine xZ.callv (κ := oI) (av := [.int x4]) (rest := []) (st' := fun x5 => [.int x5]) (k0 := v1) (me := xm103) hP_103 rfl (Or.inl rfl) ⟨rfl, by decide⟩ rfl rfl (Nat.le_of_ble_eq_true rfl) (by decide) hP_105 (Nat.le_of_ble_eq_true rfl) (fun _ => rfl) (k_f_Zone_commonOf O f (d + 0) v1 x4 M3) (fun x5 M4 => ?_)
      exact xZ.reti (me := xm103) hP_103 rfl rfl
def f_Calendarhall_begin (O : Nat → Option va_E) (f : Nat) (v0 : Nat) (v1 : Int32) (v2 : Int32) (M : xM) : Option (Int32 × xM) :=
  (isO O M v0 12).bind fun _ =>
  xcl (f_Calendarhall_seriesNumbered O f v0 v1 M) fun x1 M1 =>
  (gR O M1 x1 10 6).bind fun x2 =>
  (isO O M1 x2 9).bind fun _ =>
  xcl (f_Rule_isDay O f x2 v2 M1) fun x3 M2 =>
  if x3 = 0 then (
    none
  ) else
  (gR O M2 v0 12 0).bind fun x4 =>
  (isO O M2 x4 4).bind fun _ =>
  xcl (f_Hall_zoneOf O f x4 x1 M2) fun x5 M3 =>
  (isO O M3 x1 10).bind fun _ =>
  xcl (f_Series_beginOf O f x1 x5 v2 M3) fun x6 M4 =>
  some (x6, M4)
set_option maxRecDepth 20000 in
theorem k_f_Calendarhall_begin (O : Nat → Option va_E) (f d : Nat) (v0 : Nat) (v1 : Int32) (v2 : Int32) (M : xM) : xZ oI O (d + 5) 98 0 [(0, .ref v0), (1, .int v1), (2, .int v2)] [] M (f_Calendarhall_begin O f v0 v1 v2 M) := by
  unfold f_Calendarhall_begin
  refine xZ.adv (me := xm98) hP_98 2 (pc' := 2) (lv' := [(0, .ref v0), (1, .int v1), (2, .int v2)]) (st' := [.int v1, .ref v0]) rfl ?_
  refine xZ.callv (κ := oR) (av := [.int v1]) (rest := []) (st' := fun x1 => [.ref x1]) (k0 := v0) (me := xm98) hP_98 rfl (Or.inl rfl) ⟨rfl, by decide⟩ rfl rfl (Nat.le_of_ble_eq_true rfl) (by decide) hP_79 (Nat.le_of_ble_eq_true rfl) (fun _ => rfl) (k_f_Calendarhall_seriesNumbered O f (d + 3) v0 v1 M) (fun x1 M1 => ?_)
  refine xZ.adv (me := xm98) hP_98 2 (pc' := 7) (lv' := [(3, .ref x1), (0, .ref v0), (1, .int v1), (2, .int v2)]) (st' := [.ref x1]) rfl ?_
  refine xZ.k_gR (me := xm98) hP_98 rfl (fun x2 => ?_)
  refine xZ.adv (me := xm98) hP_98 1 (pc' := 11) (lv' := [(3, .ref x1), (0, .ref v0), (1, .int v1), (2, .int v2)]) (st' := [.int v2, .ref x2]) rfl ?_
  refine xZ.callv (κ := oI) (av := [.int v2]) (rest := []) (st' := fun x3 => [.int x3]) (k0 := x2) (me := xm98) hP_98 rfl (Or.inl rfl) ⟨rfl, by decide⟩ rfl rfl (Nat.le_of_ble_eq_true rfl) (by decide) hP_99 (Nat.le_of_ble_eq_true rfl) (fun _ => rfl) (k_f_Rule_isDay O f (d + 1) x2 v2 M1) (fun x3 M2 => ?_)
  refine xZ.if_ne (me := xm98) hP_98 rfl (fun h1 => ?_) (fun h1 => ?_)
  · skip
    exact xZ.no
  · skip
    refine xZ.adv (me := xm98) hP_98 2 (pc' := 27) (lv' := [(3, .ref x1), (0, .ref v0), (1, .int v1), (2, .int v2)]) (st' := [.ref v0, .ref x1]) rfl ?_
    refine xZ.k_gR (me := xm98) hP_98 rfl (fun x4 => ?_)
    refine xZ.adv (me := xm98) hP_98 1 (pc' := 31) (lv' := [(3, .ref x1), (0, .ref v0), (1, .int v1), (2, .int v2)]) (st' := [.ref x1, .ref x4, .ref x1]) rfl ?_
    refine xZ.callv (κ := oR) (av := [.ref x1]) (rest := [.ref x1]) (st' := fun x5 => [.ref x5, .ref x1]) (k0 := x4) (me := xm98) hP_98 rfl (Or.inl rfl) ⟨rfl, by decide⟩ rfl rfl (Nat.le_of_ble_eq_true rfl) (by decide) hP_102 (Nat.le_of_ble_eq_true rfl) (fun _ => rfl) (k_f_Hall_zoneOf O f (d + 3) x4 x1 M2) (fun x5 M3 => ?_)
    refine xZ.adv (me := xm98) hP_98 1 (pc' := 35) (lv' := [(3, .ref x1), (0, .ref v0), (1, .int v1), (2, .int v2)]) (st' := [.int v2, .ref x5, .ref x1]) rfl ?_
    refine xZ.callv (κ := oI) (av := [.ref x5, .int v2]) (rest := []) (st' := fun x6 => [.int x6]) (k0 := x1) (me := xm98) hP_98 rfl (Or.inl rfl) ⟨rfl, by decide⟩ rfl rfl (Nat.le_of_ble_eq_true rfl) (by decide) hP_103 (Nat.le_of_ble_eq_true rfl) (fun _ => rfl) (k_f_Series_beginOf O f (d + 0) x1 x5 v2 M3) (fun x6 M4 => ?_)
    exact xZ.reti (me := xm98) hP_98 rfl rfl
def f_Series_hasPlaceFor (O : Nat → Option va_E) (f : Nat) (v0 : Nat) (v1 : Int32) (M : xM) : Option (Int32 × xM) :=
  (gI O M v0 10 7).bind fun x1 =>
  if x1 < (10 : Int32) then (
    some ((1 : Int32), M)
  ) else
  (isO O M v0 10).bind fun _ =>
  xcl (f_Series_exceptionOf O f v0 v1 M) fun x2 M1 =>
  if x2 = (-1 : Int32) then (
    some ((0 : Int32), M1)
  ) else
  some ((1 : Int32), M1)
set_option maxRecDepth 20000 in
theorem k_f_Series_hasPlaceFor (O : Nat → Option va_E) (f d : Nat) (v0 : Nat) (v1 : Int32) (M : xM) : xZ oI O (d + 1) 110 0 [(0, .ref v0), (1, .int v1)] [] M (f_Series_hasPlaceFor O f v0 v1 M) := by
  unfold f_Series_hasPlaceFor
  refine xZ.adv (me := xm110) hP_110 1 (pc' := 1) (lv' := [(0, .ref v0), (1, .int v1)]) (st' := [.ref v0]) rfl ?_
  refine xZ.k_gI (me := xm110) hP_110 rfl (fun x1 => ?_)
  refine xZ.adv (me := xm110) hP_110 1 (pc' := 6) (lv' := [(0, .ref v0), (1, .int v1)]) (st' := [.int (10 : Int32), .int x1]) rfl ?_
  refine xZ.ic_lt (me := xm110) hP_110 rfl (fun h1 => ?_) (fun h1 => ?_)
  · skip
    refine xZ.adv (me := xm110) hP_110 2 (pc' := 23) (lv' := [(0, .ref v0), (1, .int v1)]) (st' := [.int (1 : Int32)]) rfl ?_
    exact xZ.rete (me := xm110) hP_110 rfl rfl rfl
  · skip
    refine xZ.adv (me := xm110) hP_110 2 (pc' := 11) (lv' := [(0, .ref v0), (1, .int v1)]) (st' := [.int v1, .ref v0]) rfl ?_
    refine xZ.callv (κ := oI) (av := [.int v1]) (rest := []) (st' := fun x2 => [.int x2]) (k0 := v0) (me := xm110) hP_110 rfl (Or.inl rfl) ⟨rfl, by decide⟩ rfl rfl (Nat.le_of_ble_eq_true rfl) (by decide) hP_104 (Nat.le_of_ble_eq_true rfl) (fun _ => rfl) (k_f_Series_exceptionOf O f (d + 0) v0 v1 M) (fun x2 M1 => ?_)
    refine xZ.adv (me := xm110) hP_110 1 (pc' := 15) (lv' := [(0, .ref v0), (1, .int v1)]) (st' := [.int (-1 : Int32), .int x2]) rfl ?_
    refine xZ.ic_eq (me := xm110) hP_110 rfl (fun h2 => ?_) (fun h2 => ?_)
    · skip
      refine xZ.adv (me := xm110) hP_110 1 (pc' := 23) (lv' := [(0, .ref v0), (1, .int v1)]) (st' := [.int (0 : Int32)]) rfl ?_
      exact xZ.rete (me := xm110) hP_110 rfl rfl rfl
    · skip
      refine xZ.adv (me := xm110) hP_110 2 (pc' := 23) (lv' := [(0, .ref v0), (1, .int v1)]) (st' := [.int (1 : Int32)]) rfl ?_
      exact xZ.rete (me := xm110) hP_110 rfl rfl rfl
def f_Series_except_57 (O : Nat → Option va_E) (f : Nat) (v0 : Nat) (v1 : Int32) (v2 : Int32) (v3 : Int32) (M : xM) : Option (Unit × xM) :=
  (gR O M v0 10 8).bind fun x1 =>
  (wI M x1 v3 v1).bind fun M1 =>
  (gR O M1 v0 10 9).bind fun x2 =>
  (wI M1 x2 v3 v2).bind fun M2 =>
  some ((), M2)
set_option maxRecDepth 20000 in
theorem k_f_Series_except_57 (O : Nat → Option va_E) (f d : Nat) (v0 : Nat) (v1 : Int32) (v2 : Int32) (v3 : Int32) (M : xM) : xZ oU O (d + 1) 111 57 [(0, .ref v0), (1, .int v1), (2, .int v2), (3, .int v3)] [] M (f_Series_except_57 O f v0 v1 v2 v3 M) := by
  unfold f_Series_except_57
  refine xZ.adv (me := xm111) hP_111 1 (pc' := 58) (lv' := [(0, .ref v0), (1, .int v1), (2, .int v2), (3, .int v3)]) (st' := [.ref v0]) rfl ?_
  refine xZ.k_gR (me := xm111) hP_111 rfl (fun x1 => ?_)
  refine xZ.adv (me := xm111) hP_111 2 (pc' := 63) (lv' := [(0, .ref v0), (1, .int v1), (2, .int v2), (3, .int v3)]) (st' := [.int v1, .int v3, .ref x1]) rfl ?_
  refine xZ.k_wI (me := xm111) hP_111 rfl (fun M1 => ?_)
  refine xZ.adv (me := xm111) hP_111 1 (pc' := 65) (lv' := [(0, .ref v0), (1, .int v1), (2, .int v2), (3, .int v3)]) (st' := [.ref v0]) rfl ?_
  refine xZ.k_gR (me := xm111) hP_111 rfl (fun x2 => ?_)
  refine xZ.adv (me := xm111) hP_111 2 (pc' := 70) (lv' := [(0, .ref v0), (1, .int v1), (2, .int v2), (3, .int v3)]) (st' := [.int v2, .int v3, .ref x2]) rfl ?_
  refine xZ.k_wI (me := xm111) hP_111 rfl (fun M2 => ?_)
  exact xZ.retu (me := xm111) hP_111 rfl rfl
def f_Series_except_16 (O : Nat → Option va_E) (f : Nat) (v0 : Nat) (v1 : Int32) (v2 : Int32) (v3 : Int32) (M : xM) : Option (Unit × xM) :=
  if v3 < 0 then (
    some ((), M)
  ) else
  (gR O M v0 10 8).bind fun x1 =>
  (aN O M x1).bind fun x2 =>
  if x2 ≤ v3 then (
    some ((), M)
  ) else
  (gR O M v0 10 9).bind fun x3 =>
  (aN O M x3).bind fun x4 =>
  if v3 < x4 then (
    (gI O M v0 10 7).bind fun x5 =>
    if v3 = x5 then (
      (gI O M v0 10 7).bind fun x6 =>
      (pI M v0 10 7 (x6 + (1 : Int32))).bind fun M1 =>
      f_Series_except_57 O f v0 v1 v2 v3 M1
    ) else
    f_Series_except_57 O f v0 v1 v2 v3 M
  ) else
  some ((), M)
set_option maxRecDepth 20000 in
theorem k_f_Series_except_16 (O : Nat → Option va_E) (f d : Nat) (v0 : Nat) (v1 : Int32) (v2 : Int32) (v3 : Int32) (M : xM) : xZ oU O (d + 1) 111 16 [(0, .ref v0), (1, .int v1), (2, .int v2), (3, .int v3)] [] M (f_Series_except_16 O f v0 v1 v2 v3 M) := by
  unfold f_Series_except_16
  refine xZ.adv (me := xm111) hP_111 1 (pc' := 17) (lv' := [(0, .ref v0), (1, .int v1), (2, .int v2), (3, .int v3)]) (st' := [.int v3]) rfl ?_
  refine xZ.if_lt (me := xm111) hP_111 rfl (fun h1 => ?_) (fun h1 => ?_)
  · skip
    exact xZ.retu (me := xm111) hP_111 rfl rfl
  · skip
    refine xZ.adv (me := xm111) hP_111 2 (pc' := 22) (lv' := [(0, .ref v0), (1, .int v1), (2, .int v2), (3, .int v3)]) (st' := [.ref v0, .int v3]) rfl ?_
    refine xZ.k_gR (me := xm111) hP_111 rfl (fun x1 => ?_)
    refine xZ.k_aN (me := xm111) hP_111 rfl (fun x2 => ?_)
    refine xZ.ic_ge (me := xm111) hP_111 rfl (fun h2 => ?_) (fun h2 => ?_)
    · skip
      exact xZ.retu (me := xm111) hP_111 rfl rfl
    · skip
      refine xZ.adv (me := xm111) hP_111 2 (pc' := 31) (lv' := [(0, .ref v0), (1, .int v1), (2, .int v2), (3, .int v3)]) (st' := [.ref v0, .int v3]) rfl ?_
      refine xZ.k_gR (me := xm111) hP_111 rfl (fun x3 => ?_)
      refine xZ.k_aN (me := xm111) hP_111 rfl (fun x4 => ?_)
      refine xZ.ic_lt (me := xm111) hP_111 rfl (fun h3 => ?_) (fun h3 => ?_)
      · skip
        refine xZ.adv (me := xm111) hP_111 2 (pc' := 41) (lv' := [(0, .ref v0), (1, .int v1), (2, .int v2), (3, .int v3)]) (st' := [.ref v0, .int v3]) rfl ?_
        refine xZ.k_gI (me := xm111) hP_111 rfl (fun x5 => ?_)
        refine xZ.ic_ne (me := xm111) hP_111 rfl (fun h4 => ?_) (fun h4 => ?_)
        · skip
          refine xZ.adv (me := xm111) hP_111 2 (pc' := 49) (lv' := [(0, .ref v0), (1, .int v1), (2, .int v2), (3, .int v3)]) (st' := [.ref v0, .ref v0]) rfl ?_
          refine xZ.k_gI (me := xm111) hP_111 rfl (fun x6 => ?_)
          refine xZ.adv (me := xm111) hP_111 2 (pc' := 54) (lv' := [(0, .ref v0), (1, .int v1), (2, .int v2), (3, .int v3)]) (st' := [.int (x6 + (1 : Int32)), .ref v0]) rfl ?_
          refine xZ.k_pI (me := xm111) hP_111 rfl (fun M1 => ?_)
          exact (k_f_Series_except_57 O f d v0 v1 v2 v3 M1)
        · skip
          exact (k_f_Series_except_57 O f d v0 v1 v2 v3 M)
      · skip
        exact xZ.retu (me := xm111) hP_111 rfl rfl
def f_Series_except (O : Nat → Option va_E) (f : Nat) (v0 : Nat) (v1 : Int32) (v2 : Int32) (M : xM) : Option (Unit × xM) :=
  (isO O M v0 10).bind fun _ =>
  xcl (f_Series_exceptionOf O f v0 v1 M) fun x1 M1 =>
  if x1 = (-1 : Int32) then (
    (gI O M1 v0 10 7).bind fun x2 =>
    f_Series_except_16 O f v0 v1 v2 x2 M1
  ) else
  f_Series_except_16 O f v0 v1 v2 x1 M1
set_option maxRecDepth 20000 in
theorem k_f_Series_except (O : Nat → Option va_E) (f d : Nat) (v0 : Nat) (v1 : Int32) (v2 : Int32) (M : xM) : xZ oU O (d + 1) 111 0 [(0, .ref v0), (1, .int v1), (2, .int v2)] [] M (f_Series_except O f v0 v1 v2 M) := by
  unfold f_Series_except
  refine xZ.adv (me := xm111) hP_111 2 (pc' := 2) (lv' := [(0, .ref v0), (1, .int v1), (2, .int v2)]) (st' := [.int v1, .ref v0]) rfl ?_
  refine xZ.callv (κ := oI) (av := [.int v1]) (rest := []) (st' := fun x1 => [.int x1]) (k0 := v0) (me := xm111) hP_111 rfl (Or.inl rfl) ⟨rfl, by decide⟩ rfl rfl (Nat.le_of_ble_eq_true rfl) (by decide) hP_104 (Nat.le_of_ble_eq_true rfl) (fun _ => rfl) (k_f_Series_exceptionOf O f (d + 0) v0 v1 M) (fun x1 M1 => ?_)
  refine xZ.adv (me := xm111) hP_111 3 (pc' := 8) (lv' := [(3, .int x1), (0, .ref v0), (1, .int v1), (2, .int v2)]) (st' := [.int (-1 : Int32), .int x1]) rfl ?_
  refine xZ.ic_ne (me := xm111) hP_111 rfl (fun h1 => ?_) (fun h1 => ?_)
  · skip
    refine xZ.adv (me := xm111) hP_111 1 (pc' := 12) (lv' := [(3, .int x1), (0, .ref v0), (1, .int v1), (2, .int v2)]) (st' := [.ref v0]) rfl ?_
    refine xZ.k_gI (me := xm111) hP_111 rfl (fun x2 => ?_)
    refine xZ.adv (me := xm111) hP_111 1 (pc' := 16) (lv' := [(3, .int x2), (0, .ref v0), (1, .int v1), (2, .int v2)]) (st' := []) rfl ?_
    exact xZ.sub (xsc (.tail _ (.head _)) (xsc (.tail _ (.tail _ (.head _))) (xsc (.tail _ (.tail _ (.tail _ (.head _)))) (xsc (.head _) xsn)))) (show ([3, 0, 1, 2] : List Nat).Nodup from by decide) (k_f_Series_except_16 O f d v0 v1 v2 x2 M1)
  · skip
    exact xZ.sub (xsc (.tail _ (.head _)) (xsc (.tail _ (.tail _ (.head _))) (xsc (.tail _ (.tail _ (.tail _ (.head _)))) (xsc (.head _) xsn)))) (show ([3, 0, 1, 2] : List Nat).Nodup from by decide) (k_f_Series_except_16 O f d v0 v1 v2 x1 M1)
def f_Calendarhall_leaveOut (O : Nat → Option va_E) (f : Nat) (v0 : Nat) (v1 : Int32) (v2 : Int32) (M : xM) : Option (Int32 × xM) :=
  (isO O M v0 12).bind fun _ =>
  xcl (f_Calendarhall_seriesNumbered O f v0 v1 M) fun x1 M1 =>
  (gR O M1 x1 10 6).bind fun x2 =>
  (isO O M1 x2 9).bind fun _ =>
  xcl (f_Rule_isDay O f x2 v2 M1) fun x3 M2 =>
  if x3 = 0 then (
    none
  ) else
  (isO O M2 x1 10).bind fun _ =>
  xcl (f_Series_hasPlaceFor O f x1 v2 M2) fun x4 M3 =>
  if x4 = 0 then (
    none
  ) else
  (isO O M3 v0 12).bind fun _ =>
  xcl (f_Calendarhall_saveForUndo O f v0 M3) fun _ M4 =>
  (isO O M4 x1 10).bind fun _ =>
  xcl (f_Series_except O f x1 v2 (-1 : Int32) M4) fun _ M5 =>
  (gI O M5 x1 10 7).bind fun x7 =>
  some (x7, M5)
set_option maxRecDepth 20000 in
theorem k_f_Calendarhall_leaveOut (O : Nat → Option va_E) (f d : Nat) (v0 : Nat) (v1 : Int32) (v2 : Int32) (M : xM) : xZ oI O (d + 5) 109 0 [(0, .ref v0), (1, .int v1), (2, .int v2)] [] M (f_Calendarhall_leaveOut O f v0 v1 v2 M) := by
  unfold f_Calendarhall_leaveOut
  refine xZ.adv (me := xm109) hP_109 2 (pc' := 2) (lv' := [(0, .ref v0), (1, .int v1), (2, .int v2)]) (st' := [.int v1, .ref v0]) rfl ?_
  refine xZ.callv (κ := oR) (av := [.int v1]) (rest := []) (st' := fun x1 => [.ref x1]) (k0 := v0) (me := xm109) hP_109 rfl (Or.inl rfl) ⟨rfl, by decide⟩ rfl rfl (Nat.le_of_ble_eq_true rfl) (by decide) hP_79 (Nat.le_of_ble_eq_true rfl) (fun _ => rfl) (k_f_Calendarhall_seriesNumbered O f (d + 3) v0 v1 M) (fun x1 M1 => ?_)
  refine xZ.adv (me := xm109) hP_109 2 (pc' := 7) (lv' := [(3, .ref x1), (0, .ref v0), (1, .int v1), (2, .int v2)]) (st' := [.ref x1]) rfl ?_
  refine xZ.k_gR (me := xm109) hP_109 rfl (fun x2 => ?_)
  refine xZ.adv (me := xm109) hP_109 1 (pc' := 11) (lv' := [(3, .ref x1), (0, .ref v0), (1, .int v1), (2, .int v2)]) (st' := [.int v2, .ref x2]) rfl ?_
  refine xZ.callv (κ := oI) (av := [.int v2]) (rest := []) (st' := fun x3 => [.int x3]) (k0 := x2) (me := xm109) hP_109 rfl (Or.inl rfl) ⟨rfl, by decide⟩ rfl rfl (Nat.le_of_ble_eq_true rfl) (by decide) hP_99 (Nat.le_of_ble_eq_true rfl) (fun _ => rfl) (k_f_Rule_isDay O f (d + 1) x2 v2 M1) (fun x3 M2 => ?_)
  refine xZ.if_ne (me := xm109) hP_109 rfl (fun h1 => ?_) (fun h1 => ?_)
  · skip
    exact xZ.no
  · skip
    refine xZ.adv (me := xm109) hP_109 2 (pc' := 27) (lv' := [(3, .ref x1), (0, .ref v0), (1, .int v1), (2, .int v2)]) (st' := [.int v2, .ref x1]) rfl ?_
    refine xZ.callv (κ := oI) (av := [.int v2]) (rest := []) (st' := fun x4 => [.int x4]) (k0 := x1) (me := xm109) hP_109 rfl (Or.inl rfl) ⟨rfl, by decide⟩ rfl rfl (Nat.le_of_ble_eq_true rfl) (by decide) hP_110 (Nat.le_of_ble_eq_true rfl) (fun _ => rfl) (k_f_Series_hasPlaceFor O f (d + 3) x1 v2 M2) (fun x4 M3 => ?_)
    refine xZ.if_ne (me := xm109) hP_109 rfl (fun h2 => ?_) (fun h2 => ?_)
    · skip
      exact xZ.no
    · skip
      refine xZ.adv (me := xm109) hP_109 1 (pc' := 42) (lv' := [(3, .ref x1), (0, .ref v0), (1, .int v1), (2, .int v2)]) (st' := [.ref v0]) rfl ?_
      refine xZ.callv (κ := oU) (av := []) (rest := []) (st' := fun _ => []) (k0 := v0) (me := xm109) hP_109 rfl (Or.inl rfl) ⟨rfl, by decide⟩ rfl rfl (Nat.le_of_ble_eq_true rfl) (by decide) hP_23 (Nat.le_of_ble_eq_true rfl) (fun _ => rfl) (k_f_Calendarhall_saveForUndo O f (d + 0) v0 M3) (fun _ M4 => ?_)
      refine xZ.adv (me := xm109) hP_109 3 (pc' := 48) (lv' := [(3, .ref x1), (0, .ref v0), (1, .int v1), (2, .int v2)]) (st' := [.int (-1 : Int32), .int v2, .ref x1]) rfl ?_
      refine xZ.callv (κ := oU) (av := [.int v2, .int (-1 : Int32)]) (rest := []) (st' := fun _ => []) (k0 := x1) (me := xm109) hP_109 rfl (Or.inl rfl) ⟨rfl, by decide⟩ rfl rfl (Nat.le_of_ble_eq_true rfl) (by decide) hP_111 (Nat.le_of_ble_eq_true rfl) (fun _ => rfl) (k_f_Series_except O f (d + 3) x1 v2 (-1 : Int32) M4) (fun _ M5 => ?_)
      refine xZ.adv (me := xm109) hP_109 1 (pc' := 52) (lv' := [(3, .ref x1), (0, .ref v0), (1, .int v1), (2, .int v2)]) (st' := [.ref x1]) rfl ?_
      refine xZ.k_gI (me := xm109) hP_109 rfl (fun x7 => ?_)
      exact xZ.reti (me := xm109) hP_109 rfl rfl
def f_Calendarhall_move (O : Nat → Option va_E) (f : Nat) (v0 : Nat) (v1 : Int32) (v2 : Int32) (v3 : Int32) (v4 : Int32) (M : xM) : Option (Int32 × xM) :=
  (isO O M v0 12).bind fun _ =>
  xcl (f_Calendarhall_seriesNumbered O f v0 v1 M) fun x1 M1 =>
  xcl (f_Calendarhall_needDay O f v3 M1) fun _ M2 =>
  xcl (f_Calendarhall_needRange O f v4 (0 : Int32) (1439 : Int32) M2) fun _ M3 =>
  (gR O M3 x1 10 6).bind fun x4 =>
  (isO O M3 x4 9).bind fun _ =>
  xcl (f_Rule_isDay O f x4 v2 M3) fun x5 M4 =>
  if x5 = 0 then (
    none
  ) else
  (isO O M4 x1 10).bind fun _ =>
  xcl (f_Series_hasPlaceFor O f x1 v2 M4) fun x6 M5 =>
  if x6 = 0 then (
    none
  ) else
  (isO O M5 v0 12).bind fun _ =>
  xcl (f_Calendarhall_saveForUndo O f v0 M5) fun _ M6 =>
  (isO O M6 x1 10).bind fun _ =>
  xcl (f_Series_except O f x1 v2 ((v3 * (1440 : Int32)) + v4) M6) fun _ M7 =>
  (gR O M7 v0 12 0).bind fun x9 =>
  (isO O M7 x9 4).bind fun _ =>
  xcl (f_Hall_zoneOf O f x9 x1 M7) fun x10 M8 =>
  (isO O M8 x10 11).bind fun _ =>
  xcl (f_Zone_commonOf O f x10 ((v3 * (1440 : Int32)) + v4) M8) fun x11 M9 =>
  some (x11, M9)
set_option maxRecDepth 20000 in
theorem k_f_Calendarhall_move (O : Nat → Option va_E) (f d : Nat) (v0 : Nat) (v1 : Int32) (v2 : Int32) (v3 : Int32) (v4 : Int32) (M : xM) : xZ oI O (d + 5) 112 0 [(0, .ref v0), (1, .int v1), (2, .int v2), (3, .int v3), (4, .int v4)] [] M (f_Calendarhall_move O f v0 v1 v2 v3 v4 M) := by
  unfold f_Calendarhall_move
  refine xZ.adv (me := xm112) hP_112 2 (pc' := 2) (lv' := [(0, .ref v0), (1, .int v1), (2, .int v2), (3, .int v3), (4, .int v4)]) (st' := [.int v1, .ref v0]) rfl ?_
  refine xZ.callv (κ := oR) (av := [.int v1]) (rest := []) (st' := fun x1 => [.ref x1]) (k0 := v0) (me := xm112) hP_112 rfl (Or.inl rfl) ⟨rfl, by decide⟩ rfl rfl (Nat.le_of_ble_eq_true rfl) (by decide) hP_79 (Nat.le_of_ble_eq_true rfl) (fun _ => rfl) (k_f_Calendarhall_seriesNumbered O f (d + 3) v0 v1 M) (fun x1 M1 => ?_)
  refine xZ.adv (me := xm112) hP_112 2 (pc' := 8) (lv' := [(5, .ref x1), (0, .ref v0), (1, .int v1), (2, .int v2), (3, .int v3), (4, .int v4)]) (st' := [.int v3]) rfl ?_
  refine xZ.calls (κ := oU) (av := [.int v3]) (rest := []) (st' := fun _ => []) (me := xm112) hP_112 rfl rfl rfl (Nat.le_of_ble_eq_true rfl) (by decide) hP_37 (Nat.le_of_ble_eq_true rfl) (fun _ => rfl) (k_f_Calendarhall_needDay O f (d + 4) v3 M1) (fun _ M2 => ?_)
  refine xZ.adv (me := xm112) hP_112 3 (pc' := 17) (lv' := [(5, .ref x1), (0, .ref v0), (1, .int v1), (2, .int v2), (3, .int v3), (4, .int v4)]) (st' := [.int (1439 : Int32), .int (0 : Int32), .int v4]) rfl ?_
  refine xZ.calls (κ := oU) (av := [.int v4, .int (0 : Int32), .int (1439 : Int32)]) (rest := []) (st' := fun _ => []) (me := xm112) hP_112 rfl rfl rfl (Nat.le_of_ble_eq_true rfl) (by decide) hP_22 (Nat.le_of_ble_eq_true rfl) (fun _ => rfl) (k_f_Calendarhall_needRange O f (d + 4) v4 (0 : Int32) (1439 : Int32) M2) (fun _ M3 => ?_)
  refine xZ.adv (me := xm112) hP_112 1 (pc' := 22) (lv' := [(5, .ref x1), (0, .ref v0), (1, .int v1), (2, .int v2), (3, .int v3), (4, .int v4)]) (st' := [.ref x1]) rfl ?_
  refine xZ.k_gR (me := xm112) hP_112 rfl (fun x4 => ?_)
  refine xZ.adv (me := xm112) hP_112 1 (pc' := 26) (lv' := [(5, .ref x1), (0, .ref v0), (1, .int v1), (2, .int v2), (3, .int v3), (4, .int v4)]) (st' := [.int v2, .ref x4]) rfl ?_
  refine xZ.callv (κ := oI) (av := [.int v2]) (rest := []) (st' := fun x5 => [.int x5]) (k0 := x4) (me := xm112) hP_112 rfl (Or.inl rfl) ⟨rfl, by decide⟩ rfl rfl (Nat.le_of_ble_eq_true rfl) (by decide) hP_99 (Nat.le_of_ble_eq_true rfl) (fun _ => rfl) (k_f_Rule_isDay O f (d + 1) x4 v2 M3) (fun x5 M4 => ?_)
  refine xZ.if_ne (me := xm112) hP_112 rfl (fun h1 => ?_) (fun h1 => ?_)
  · skip
    exact xZ.no
  · skip
    refine xZ.adv (me := xm112) hP_112 2 (pc' := 43) (lv' := [(5, .ref x1), (0, .ref v0), (1, .int v1), (2, .int v2), (3, .int v3), (4, .int v4)]) (st' := [.int v2, .ref x1]) rfl ?_
    refine xZ.callv (κ := oI) (av := [.int v2]) (rest := []) (st' := fun x6 => [.int x6]) (k0 := x1) (me := xm112) hP_112 rfl (Or.inl rfl) ⟨rfl, by decide⟩ rfl rfl (Nat.le_of_ble_eq_true rfl) (by decide) hP_110 (Nat.le_of_ble_eq_true rfl) (fun _ => rfl) (k_f_Series_hasPlaceFor O f (d + 3) x1 v2 M4) (fun x6 M5 => ?_)
    refine xZ.if_ne (me := xm112) hP_112 rfl (fun h2 => ?_) (fun h2 => ?_)
    · skip
      exact xZ.no
    · skip
      refine xZ.adv (me := xm112) hP_112 1 (pc' := 58) (lv' := [(5, .ref x1), (0, .ref v0), (1, .int v1), (2, .int v2), (3, .int v3), (4, .int v4)]) (st' := [.ref v0]) rfl ?_
      refine xZ.callv (κ := oU) (av := []) (rest := []) (st' := fun _ => []) (k0 := v0) (me := xm112) hP_112 rfl (Or.inl rfl) ⟨rfl, by decide⟩ rfl rfl (Nat.le_of_ble_eq_true rfl) (by decide) hP_23 (Nat.le_of_ble_eq_true rfl) (fun _ => rfl) (k_f_Calendarhall_saveForUndo O f (d + 0) v0 M5) (fun _ M6 => ?_)
      refine xZ.adv (me := xm112) hP_112 9 (pc' := 76) (lv' := [(6, .int ((v3 * (1440 : Int32)) + v4)), (5, .ref x1), (0, .ref v0), (1, .int v1), (2, .int v2), (3, .int v3), (4, .int v4)]) (st' := [.int ((v3 * (1440 : Int32)) + v4), .int v2, .ref x1]) rfl ?_
      refine xZ.callv (κ := oU) (av := [.int v2, .int ((v3 * (1440 : Int32)) + v4)]) (rest := []) (st' := fun _ => []) (k0 := x1) (me := xm112) hP_112 rfl (Or.inl rfl) ⟨rfl, by decide⟩ rfl rfl (Nat.le_of_ble_eq_true rfl) (by decide) hP_111 (Nat.le_of_ble_eq_true rfl) (fun _ => rfl) (k_f_Series_except O f (d + 3) x1 v2 ((v3 * (1440 : Int32)) + v4) M6) (fun _ M7 => ?_)
      refine xZ.adv (me := xm112) hP_112 1 (pc' := 80) (lv' := [(6, .int ((v3 * (1440 : Int32)) + v4)), (5, .ref x1), (0, .ref v0), (1, .int v1), (2, .int v2), (3, .int v3), (4, .int v4)]) (st' := [.ref v0]) rfl ?_
      refine xZ.k_gR (me := xm112) hP_112 rfl (fun x9 => ?_)
      refine xZ.adv (me := xm112) hP_112 1 (pc' := 85) (lv' := [(6, .int ((v3 * (1440 : Int32)) + v4)), (5, .ref x1), (0, .ref v0), (1, .int v1), (2, .int v2), (3, .int v3), (4, .int v4)]) (st' := [.ref x1, .ref x9]) rfl ?_
      refine xZ.callv (κ := oR) (av := [.ref x1]) (rest := []) (st' := fun x10 => [.ref x10]) (k0 := x9) (me := xm112) hP_112 rfl (Or.inl rfl) ⟨rfl, by decide⟩ rfl rfl (Nat.le_of_ble_eq_true rfl) (by decide) hP_102 (Nat.le_of_ble_eq_true rfl) (fun _ => rfl) (k_f_Hall_zoneOf O f (d + 3) x9 x1 M7) (fun x10 M8 => ?_)
      refine xZ.adv (me := xm112) hP_112 1 (pc' := 90) (lv' := [(6, .int ((v3 * (1440 : Int32)) + v4)), (5, .ref x1), (0, .ref v0), (1, .int v1), (2, .int v2), (3, .int v3), (4, .int v4)]) (st' := [.int ((v3 * (1440 : Int32)) + v4), .ref x10]) rfl ?_
      refine xZ.callv (κ := oI) (av := [.int ((v3 * (1440 : Int32)) + v4)]) (rest := []) (st' := fun x11 => [.int x11]) (k0 := x10) (me := xm112) hP_112 rfl (Or.inl rfl) ⟨rfl, by decide⟩ rfl rfl (Nat.le_of_ble_eq_true rfl) (by decide) hP_105 (Nat.le_of_ble_eq_true rfl) (fun _ => rfl) (k_f_Zone_commonOf O f (d + 1) x10 ((v3 * (1440 : Int32)) + v4) M8) (fun x11 M9 => ?_)
      exact xZ.reti (me := xm112) hP_112 rfl rfl
def f_Calendarhall_needMinute (O : Nat → Option va_E) (f : Nat) (v0 : Int32) (M : xM) : Option (Unit × xM) :=
  if v0 < (14400 : Int32) then (
    none
  ) else
  if v0 ≤ (210240000 : Int32) then (
    some ((), M)
  ) else
  none
set_option maxRecDepth 20000 in
theorem k_f_Calendarhall_needMinute (O : Nat → Option va_E) (f d : Nat) (v0 : Int32) (M : xM) : xZ oU O (d + 0) 115 0 [(0, .int v0)] [] M (f_Calendarhall_needMinute O f v0 M) := by
  unfold f_Calendarhall_needMinute
  refine xZ.adv (me := xm115) hP_115 2 (pc' := 4) (lv' := [(0, .int v0)]) (st' := [.int (14400 : Int32), .int v0]) rfl ?_
  refine xZ.ic_lt (me := xm115) hP_115 rfl (fun h1 => ?_) (fun h1 => ?_)
  · skip
    exact xZ.no
  · skip
    refine xZ.adv (me := xm115) hP_115 2 (pc' := 11) (lv' := [(0, .int v0)]) (st' := [.int (210240000 : Int32), .int v0]) rfl ?_
    refine xZ.ic_le (me := xm115) hP_115 rfl (fun h2 => ?_) (fun h2 => ?_)
    · skip
      exact xZ.retu (me := xm115) hP_115 rfl rfl
    · skip
      exact xZ.no
def f_Calendarhall_needPiece (O : Nat → Option va_E) (f : Nat) (v0 : Int32) (v1 : Int32) (v2 : Int32) (M : xM) : Option (Unit × xM) :=
  xcl (f_Calendarhall_needMinute O f v0 M) fun _ M1 =>
  xcl (f_Calendarhall_needMinute O f v1 M1) fun _ M2 =>
  if v1 ≤ v0 then (
    none
  ) else
  if (v1 - v0) ≤ v2 then (
    some ((), M2)
  ) else
  none
set_option maxRecDepth 20000 in
theorem k_f_Calendarhall_needPiece (O : Nat → Option va_E) (f d : Nat) (v0 : Int32) (v1 : Int32) (v2 : Int32) (M : xM) : xZ oU O (d + 1) 114 0 [(0, .int v0), (1, .int v1), (2, .int v2)] [] M (f_Calendarhall_needPiece O f v0 v1 v2 M) := by
  unfold f_Calendarhall_needPiece
  refine xZ.adv (me := xm114) hP_114 1 (pc' := 1) (lv' := [(0, .int v0), (1, .int v1), (2, .int v2)]) (st' := [.int v0]) rfl ?_
  refine xZ.calls (κ := oU) (av := [.int v0]) (rest := []) (st' := fun _ => []) (me := xm114) hP_114 rfl rfl rfl (Nat.le_of_ble_eq_true rfl) (by decide) hP_115 (Nat.le_of_ble_eq_true rfl) (fun _ => rfl) (k_f_Calendarhall_needMinute O f (d + 0) v0 M) (fun _ M1 => ?_)
  refine xZ.adv (me := xm114) hP_114 1 (pc' := 5) (lv' := [(0, .int v0), (1, .int v1), (2, .int v2)]) (st' := [.int v1]) rfl ?_
  refine xZ.calls (κ := oU) (av := [.int v1]) (rest := []) (st' := fun _ => []) (me := xm114) hP_114 rfl rfl rfl (Nat.le_of_ble_eq_true rfl) (by decide) hP_115 (Nat.le_of_ble_eq_true rfl) (fun _ => rfl) (k_f_Calendarhall_needMinute O f (d + 0) v1 M1) (fun _ M2 => ?_)
  refine xZ.adv (me := xm114) hP_114 2 (pc' := 10) (lv' := [(0, .int v0), (1, .int v1), (2, .int v2)]) (st' := [.int v0, .int v1]) rfl ?_
  refine xZ.ic_le (me := xm114) hP_114 rfl (fun h1 => ?_) (fun h1 => ?_)
  · skip
    exact xZ.no
  · skip
    refine xZ.adv (me := xm114) hP_114 4 (pc' := 17) (lv' := [(0, .int v0), (1, .int v1), (2, .int v2)]) (st' := [.int v2, .int (v1 - v0)]) rfl ?_
    refine xZ.ic_le (me := xm114) hP_114 rfl (fun h2 => ?_) (fun h2 => ?_)
    · skip
      exact xZ.retu (me := xm114) hP_114 rfl rfl
    · skip
      exact xZ.no
def f_Series_earliestDay (O : Nat → Option va_E) (f : Nat) (v0 : Nat) (v1 : Nat) (v2 : Int32) (M : xM) : Option (Int32 × xM) :=
  (gI O M v1 11 0).bind fun x1 =>
  (gI O M v0 10 2).bind fun x2 =>
  some ((((v2 + x1) - x2) / (1440 : Int32)), M)
set_option maxRecDepth 20000 in
theorem k_f_Series_earliestDay (O : Nat → Option va_E) (f d : Nat) (v0 : Nat) (v1 : Nat) (v2 : Int32) (M : xM) : xZ oI O (d + 0) 118 0 [(0, .ref v0), (1, .ref v1), (2, .int v2)] [] M (f_Series_earliestDay O f v0 v1 v2 M) := by
  unfold f_Series_earliestDay
  refine xZ.adv (me := xm118) hP_118 2 (pc' := 2) (lv' := [(0, .ref v0), (1, .ref v1), (2, .int v2)]) (st' := [.ref v1, .int v2]) rfl ?_
  refine xZ.k_gI (me := xm118) hP_118 rfl (fun x1 => ?_)
  refine xZ.adv (me := xm118) hP_118 2 (pc' := 7) (lv' := [(0, .ref v0), (1, .ref v1), (2, .int v2)]) (st' := [.ref v0, .int (v2 + x1)]) rfl ?_
  refine xZ.k_gI (me := xm118) hP_118 rfl (fun x2 => ?_)
  refine xZ.adv (me := xm118) hP_118 3 (pc' := 15) (lv' := [(0, .ref v0), (1, .ref v1), (2, .int v2)]) (st' := [.int (((v2 + x1) - x2) / (1440 : Int32))]) rfl ?_
  exact xZ.reti (me := xm118) hP_118 rfl rfl
def f_Series_firstDayFrom_10 (O : Nat → Option va_E) (f : Nat) : Nat → Nat → Nat → Int32 → Int32 → Int32 → xM → Option (Int32 × xM)
  | 0, _, _, _, _, _, _ => none
  | n + 1, v0, v1, v2, v3, v4, M =>
    if (2 : Int32) ≤ v4 then (
      some (v3, M)
    ) else
    (gI O M v0 10 2).bind fun x1 =>
    (isO O M v1 11).bind fun _ =>
    xcl (f_Zone_commonOf O f v1 ((v3 * (1440 : Int32)) + x1) M) fun x2 M1 =>
    if v2 ≤ x2 then (
      some (v3, M1)
    ) else
    f_Series_firstDayFrom_10 O f n v0 v1 v2 (v3 + (1 : Int32)) (v4 + (1 : Int32)) M1
set_option maxRecDepth 20000 in
theorem k_f_Series_firstDayFrom_10 (O : Nat → Option va_E) (f d : Nat) : ∀ (n : Nat) (v0 : Nat) (v1 : Nat) (v2 : Int32) (v3 : Int32) (v4 : Int32) (M : xM), xZ oI O (d + 4) 117 10 [(0, .ref v0), (1, .ref v1), (2, .int v2), (3, .int v3), (4, .int v4)] [] M (f_Series_firstDayFrom_10 O f n v0 v1 v2 v3 v4 M) := by
  intro n
  induction n with
  | zero =>
    intro v0 v1 v2 v3 v4 M
    exact xZ.no
  | succ n ih =>
    intro v0 v1 v2 v3 v4 M
    unfold f_Series_firstDayFrom_10
    refine xZ.adv (me := xm117) hP_117 2 (pc' := 13) (lv' := [(0, .ref v0), (1, .ref v1), (2, .int v2), (3, .int v3), (4, .int v4)]) (st' := [.int (2 : Int32), .int v4]) rfl ?_
    refine xZ.ic_ge (me := xm117) hP_117 rfl (fun h1 => ?_) (fun h1 => ?_)
    · skip
      refine xZ.adv (me := xm117) hP_117 1 (pc' := 44) (lv' := [(0, .ref v0), (1, .ref v1), (2, .int v2), (3, .int v3), (4, .int v4)]) (st' := [.int v3]) rfl ?_
      exact xZ.reti (me := xm117) hP_117 rfl rfl
    · skip
      refine xZ.adv (me := xm117) hP_117 5 (pc' := 23) (lv' := [(0, .ref v0), (1, .ref v1), (2, .int v2), (3, .int v3), (4, .int v4)]) (st' := [.ref v0, .int (v3 * (1440 : Int32)), .ref v1]) rfl ?_
      refine xZ.k_gI (me := xm117) hP_117 rfl (fun x1 => ?_)
      refine xZ.adv (me := xm117) hP_117 1 (pc' := 27) (lv' := [(0, .ref v0), (1, .ref v1), (2, .int v2), (3, .int v3), (4, .int v4)]) (st' := [.int ((v3 * (1440 : Int32)) + x1), .ref v1]) rfl ?_
      refine xZ.callv (κ := oI) (av := [.int ((v3 * (1440 : Int32)) + x1)]) (rest := []) (st' := fun x2 => [.int x2]) (k0 := v1) (me := xm117) hP_117 rfl (Or.inl rfl) ⟨rfl, by decide⟩ rfl rfl (Nat.le_of_ble_eq_true rfl) (by decide) hP_105 (Nat.le_of_ble_eq_true rfl) (fun _ => rfl) (k_f_Zone_commonOf O f (d + 0) v1 ((v3 * (1440 : Int32)) + x1) M) (fun x2 M1 => ?_)
      refine xZ.adv (me := xm117) hP_117 1 (pc' := 31) (lv' := [(0, .ref v0), (1, .ref v1), (2, .int v2), (3, .int v3), (4, .int v4)]) (st' := [.int v2, .int x2]) rfl ?_
      refine xZ.ic_ge (me := xm117) hP_117 rfl (fun h2 => ?_) (fun h2 => ?_)
      · skip
        refine xZ.adv (me := xm117) hP_117 1 (pc' := 44) (lv' := [(0, .ref v0), (1, .ref v1), (2, .int v2), (3, .int v3), (4, .int v4)]) (st' := [.int v3]) rfl ?_
        exact xZ.reti (me := xm117) hP_117 rfl rfl
      · skip
        refine xZ.adv (me := xm117) hP_117 3 (pc' := 10) (lv' := [(4, .int (v4 + (1 : Int32))), (3, .int (v3 + (1 : Int32))), (0, .ref v0), (1, .ref v1), (2, .int v2)]) (st' := []) rfl ?_
        exact xZ.sub (xsc (.tail _ (.tail _ (.head _))) (xsc (.tail _ (.tail _ (.tail _ (.head _)))) (xsc (.tail _ (.tail _ (.tail _ (.tail _ (.head _))))) (xsc (.tail _ (.head _)) (xsc (.head _) xsn))))) (show ([4, 3, 0, 1, 2] : List Nat).Nodup from by decide) (ih v0 v1 v2 (v3 + (1 : Int32)) (v4 + (1 : Int32)) M1)
def f_Series_firstDayFrom (O : Nat → Option va_E) (f : Nat) (v0 : Nat) (v1 : Nat) (v2 : Int32) (M : xM) : Option (Int32 × xM) :=
  (isO O M v0 10).bind fun _ =>
  xcl (f_Series_earliestDay O f v0 v1 v2 M) fun x1 M1 =>
  f_Series_firstDayFrom_10 O f f v0 v1 v2 x1 (0 : Int32) M1
set_option maxRecDepth 20000 in
theorem k_f_Series_firstDayFrom (O : Nat → Option va_E) (f d : Nat) (v0 : Nat) (v1 : Nat) (v2 : Int32) (M : xM) : xZ oI O (d + 4) 117 0 [(0, .ref v0), (1, .ref v1), (2, .int v2)] [] M (f_Series_firstDayFrom O f v0 v1 v2 M) := by
  unfold f_Series_firstDayFrom
  refine xZ.adv (me := xm117) hP_117 3 (pc' := 3) (lv' := [(0, .ref v0), (1, .ref v1), (2, .int v2)]) (st' := [.int v2, .ref v1, .ref v0]) rfl ?_
  refine xZ.callv (κ := oI) (av := [.ref v1, .int v2]) (rest := []) (st' := fun x1 => [.int x1]) (k0 := v0) (me := xm117) hP_117 rfl (Or.inl rfl) ⟨rfl, by decide⟩ rfl rfl (Nat.le_of_ble_eq_true rfl) (by decide) hP_118 (Nat.le_of_ble_eq_true rfl) (fun _ => rfl) (k_f_Series_earliestDay O f (d + 3) v0 v1 v2 M) (fun x1 M1 => ?_)
  refine xZ.adv (me := xm117) hP_117 3 (pc' := 10) (lv' := [(4, .int (0 : Int32)), (3, .int x1), (0, .ref v0), (1, .ref v1), (2, .int v2)]) (st' := []) rfl ?_
  exact xZ.sub (xsc (.tail _ (.tail _ (.head _))) (xsc (.tail _ (.tail _ (.tail _ (.head _)))) (xsc (.tail _ (.tail _ (.tail _ (.tail _ (.head _))))) (xsc (.tail _ (.head _)) (xsc (.head _) xsn))))) (show ([4, 3, 0, 1, 2] : List Nat).Nodup from by decide) (k_f_Series_firstDayFrom_10 O f d f v0 v1 v2 x1 (0 : Int32) M1)
def f_Series_exceptionDay (O : Nat → Option va_E) (f : Nat) (v0 : Nat) (v1 : Int32) (M : xM) : Option (Int32 × xM) :=
  if v1 < 0 then (
    some ((-1 : Int32), M)
  ) else
  (gR O M v0 10 8).bind fun x1 =>
  (aN O M x1).bind fun x2 =>
  if x2 ≤ v1 then (
    some ((-1 : Int32), M)
  ) else
  (gR O M v0 10 8).bind fun x3 =>
  (aI O M x3 v1).bind fun x4 =>
  some (x4, M)
set_option maxRecDepth 20000 in
theorem k_f_Series_exceptionDay (O : Nat → Option va_E) (f d : Nat) (v0 : Nat) (v1 : Int32) (M : xM) : xZ oI O (d + 0) 119 0 [(0, .ref v0), (1, .int v1)] [] M (f_Series_exceptionDay O f v0 v1 M) := by
  unfold f_Series_exceptionDay
  refine xZ.adv (me := xm119) hP_119 1 (pc' := 1) (lv' := [(0, .ref v0), (1, .int v1)]) (st' := [.int v1]) rfl ?_
  refine xZ.if_lt (me := xm119) hP_119 rfl (fun h1 => ?_) (fun h1 => ?_)
  · skip
    refine xZ.adv (me := xm119) hP_119 1 (pc' := 23) (lv' := [(0, .ref v0), (1, .int v1)]) (st' := [.int (-1 : Int32)]) rfl ?_
    exact xZ.reti (me := xm119) hP_119 rfl rfl
  · skip
    refine xZ.adv (me := xm119) hP_119 2 (pc' := 6) (lv' := [(0, .ref v0), (1, .int v1)]) (st' := [.ref v0, .int v1]) rfl ?_
    refine xZ.k_gR (me := xm119) hP_119 rfl (fun x1 => ?_)
    refine xZ.k_aN (me := xm119) hP_119 rfl (fun x2 => ?_)
    refine xZ.ic_ge (me := xm119) hP_119 rfl (fun h2 => ?_) (fun h2 => ?_)
    · skip
      refine xZ.adv (me := xm119) hP_119 1 (pc' := 23) (lv' := [(0, .ref v0), (1, .int v1)]) (st' := [.int (-1 : Int32)]) rfl ?_
      exact xZ.reti (me := xm119) hP_119 rfl rfl
    · skip
      refine xZ.adv (me := xm119) hP_119 1 (pc' := 14) (lv' := [(0, .ref v0), (1, .int v1)]) (st' := [.ref v0]) rfl ?_
      refine xZ.k_gR (me := xm119) hP_119 rfl (fun x3 => ?_)
      refine xZ.adv (me := xm119) hP_119 1 (pc' := 18) (lv' := [(0, .ref v0), (1, .int v1)]) (st' := [.int v1, .ref x3]) rfl ?_
      refine xZ.k_aI (me := xm119) hP_119 rfl (fun x4 => ?_)
      refine xZ.adv (me := xm119) hP_119 1 (pc' := 23) (lv' := [(0, .ref v0), (1, .int v1)]) (st' := [.int x4]) rfl ?_
      exact xZ.reti (me := xm119) hP_119 rfl rfl
def f_Series_countBegins_68 (O : Nat → Option va_E) (f : Nat) (K34 : Nat → Nat → Int32 → Int32 → Int32 → Int32 → Int32 → Int32 → xM → Option (Int32 × xM)) (v0 : Nat) (v1 : Nat) (v2 : Int32) (v3 : Int32) (v4 : Int32) (v5 : Int32) (v6 : Int32) (v7 : Int32) (M : xM) : Option (Int32 × xM) :=
  (isO O M v0 10).bind fun _ =>
  xcl (f_Series_exceptionTo O f v0 v7 M) fun x1 M1 =>
  if x1 = (-1 : Int32) then (
    K34 v0 v1 v2 v3 v4 v5 v6 (v7 + (1 : Int32)) M1
  ) else
  (isO O M1 v0 10).bind fun _ =>
  xcl (f_Series_exceptionTo O f v0 v7 M1) fun x2 M2 =>
  (isO O M2 v1 11).bind fun _ =>
  xcl (f_Zone_commonOf O f v1 x2 M2) fun x3 M3 =>
  if x3 < v2 then (
    K34 v0 v1 v2 v3 v4 v5 v6 (v7 + (1 : Int32)) M3
  ) else
  if v3 ≤ x3 then (
    K34 v0 v1 v2 v3 v4 v5 v6 (v7 + (1 : Int32)) M3
  ) else
  K34 v0 v1 v2 v3 v4 v5 (v6 + (1 : Int32)) (v7 + (1 : Int32)) M3
set_option maxRecDepth 20000 in
theorem k_f_Series_countBegins_68 (O : Nat → Option va_E) (f d : Nat) (K34 : Nat → Nat → Int32 → Int32 → Int32 → Int32 → Int32 → Int32 → xM → Option (Int32 × xM)) (hK34 : ∀ (v0 : Nat) (v1 : Nat) (v2 : Int32) (v3 : Int32) (v4 : Int32) (v5 : Int32) (v6 : Int32) (v7 : Int32) M, xZ oI O (d + 5) 116 34 [(0, .ref v0), (1, .ref v1), (2, .int v2), (3, .int v3), (4, .int v4), (5, .int v5), (6, .int v6), (7, .int v7)] [] M (K34 v0 v1 v2 v3 v4 v5 v6 v7 M)) (v0 : Nat) (v1 : Nat) (v2 : Int32) (v3 : Int32) (v4 : Int32) (v5 : Int32) (v6 : Int32) (v7 : Int32) (M : xM) : xZ oI O (d + 5) 116 68 [(0, .ref v0), (1, .ref v1), (2, .int v2), (3, .int v3), (4, .int v4), (5, .int v5), (6, .int v6), (7, .int v7)] [] M (f_Series_countBegins_68 O f K34 v0 v1 v2 v3 v4 v5 v6 v7 M) := by
  unfold f_Series_countBegins_68
  refine xZ.adv (me := xm116) hP_116 2 (pc' := 71) (lv' := [(0, .ref v0), (1, .ref v1), (2, .int v2), (3, .int v3), (4, .int v4), (5, .int v5), (6, .int v6), (7, .int v7)]) (st' := [.int v7, .ref v0]) rfl ?_
  refine xZ.callv (κ := oI) (av := [.int v7]) (rest := []) (st' := fun x1 => [.int x1]) (k0 := v0) (me := xm116) hP_116 rfl (Or.inl rfl) ⟨rfl, by decide⟩ rfl rfl (Nat.le_of_ble_eq_true rfl) (by decide) hP_108 (Nat.le_of_ble_eq_true rfl) (fun _ => rfl) (k_f_Series_exceptionTo O f (d + 4) v0 v7 M) (fun x1 M1 => ?_)
  refine xZ.adv (me := xm116) hP_116 1 (pc' := 75) (lv' := [(0, .ref v0), (1, .ref v1), (2, .int v2), (3, .int v3), (4, .int v4), (5, .int v5), (6, .int v6), (7, .int v7)]) (st' := [.int (-1 : Int32), .int x1]) rfl ?_
  refine xZ.ic_ne (me := xm116) hP_116 rfl (fun h1 => ?_) (fun h1 => ?_)
  · skip
    refine xZ.adv (me := xm116) hP_116 3 (pc' := 34) (lv' := [(7, .int (v7 + (1 : Int32))), (0, .ref v0), (1, .ref v1), (2, .int v2), (3, .int v3), (4, .int v4), (5, .int v5), (6, .int v6)]) (st' := []) rfl ?_
    exact xZ.sub (xsc (.tail _ (.head _)) (xsc (.tail _ (.tail _ (.head _))) (xsc (.tail _ (.tail _ (.tail _ (.head _)))) (xsc (.tail _ (.tail _ (.tail _ (.tail _ (.head _))))) (xsc (.tail _ (.tail _ (.tail _ (.tail _ (.tail _ (.head _)))))) (xsc (.tail _ (.tail _ (.tail _ (.tail _ (.tail _ (.tail _ (.head _))))))) (xsc (.tail _ (.tail _ (.tail _ (.tail _ (.tail _ (.tail _ (.tail _ (.head _)))))))) (xsc (.head _) xsn)))))))) (show ([7, 0, 1, 2, 3, 4, 5, 6] : List Nat).Nodup from by decide) (hK34 v0 v1 v2 v3 v4 v5 v6 (v7 + (1 : Int32)) M1)
  · skip
    refine xZ.adv (me := xm116) hP_116 3 (pc' := 85) (lv' := [(0, .ref v0), (1, .ref v1), (2, .int v2), (3, .int v3), (4, .int v4), (5, .int v5), (6, .int v6), (7, .int v7)]) (st' := [.int v7, .ref v0, .ref v1]) rfl ?_
    refine xZ.callv (κ := oI) (av := [.int v7]) (rest := [.ref v1]) (st' := fun x2 => [.int x2, .ref v1]) (k0 := v0) (me := xm116) hP_116 rfl (Or.inl rfl) ⟨rfl, by decide⟩ rfl rfl (Nat.le_of_ble_eq_true rfl) (by decide) hP_108 (Nat.le_of_ble_eq_true rfl) (fun _ => rfl) (k_f_Series_exceptionTo O f (d + 4) v0 v7 M1) (fun x2 M2 => ?_)
    refine xZ.callv (κ := oI) (av := [.int x2]) (rest := []) (st' := fun x3 => [.int x3]) (k0 := v1) (me := xm116) hP_116 rfl (Or.inl rfl) ⟨rfl, by decide⟩ rfl rfl (Nat.le_of_ble_eq_true rfl) (by decide) hP_105 (Nat.le_of_ble_eq_true rfl) (fun _ => rfl) (k_f_Zone_commonOf O f (d + 1) v1 x2 M2) (fun x3 M3 => ?_)
    refine xZ.adv (me := xm116) hP_116 3 (pc' := 96) (lv' := [(8, .int x3), (0, .ref v0), (1, .ref v1), (2, .int v2), (3, .int v3), (4, .int v4), (5, .int v5), (6, .int v6), (7, .int v7)]) (st' := [.int v2, .int x3]) rfl ?_
    refine xZ.ic_lt (me := xm116) hP_116 rfl (fun h2 => ?_) (fun h2 => ?_)
    · skip
      refine xZ.adv (me := xm116) hP_116 2 (pc' := 34) (lv' := [(7, .int (v7 + (1 : Int32))), (8, .int x3), (0, .ref v0), (1, .ref v1), (2, .int v2), (3, .int v3), (4, .int v4), (5, .int v5), (6, .int v6)]) (st' := []) rfl ?_
      exact xZ.sub (xsc (.tail _ (.tail _ (.head _))) (xsc (.tail _ (.tail _ (.tail _ (.head _)))) (xsc (.tail _ (.tail _ (.tail _ (.tail _ (.head _))))) (xsc (.tail _ (.tail _ (.tail _ (.tail _ (.tail _ (.head _)))))) (xsc (.tail _ (.tail _ (.tail _ (.tail _ (.tail _ (.tail _ (.head _))))))) (xsc (.tail _ (.tail _ (.tail _ (.tail _ (.tail _ (.tail _ (.tail _ (.head _)))))))) (xsc (.tail _ (.tail _ (.tail _ (.tail _ (.tail _ (.tail _ (.tail _ (.tail _ (.head _))))))))) (xsc (.head _) xsn)))))))) (show ([7, 8, 0, 1, 2, 3, 4, 5, 6] : List Nat).Nodup from by decide) (hK34 v0 v1 v2 v3 v4 v5 v6 (v7 + (1 : Int32)) M3)
    · skip
      refine xZ.adv (me := xm116) hP_116 2 (pc' := 102) (lv' := [(8, .int x3), (0, .ref v0), (1, .ref v1), (2, .int v2), (3, .int v3), (4, .int v4), (5, .int v5), (6, .int v6), (7, .int v7)]) (st' := [.int v3, .int x3]) rfl ?_
      refine xZ.ic_ge (me := xm116) hP_116 rfl (fun h3 => ?_) (fun h3 => ?_)
      · skip
        refine xZ.adv (me := xm116) hP_116 2 (pc' := 34) (lv' := [(7, .int (v7 + (1 : Int32))), (8, .int x3), (0, .ref v0), (1, .ref v1), (2, .int v2), (3, .int v3), (4, .int v4), (5, .int v5), (6, .int v6)]) (st' := []) rfl ?_
        exact xZ.sub (xsc (.tail _ (.tail _ (.head _))) (xsc (.tail _ (.tail _ (.tail _ (.head _)))) (xsc (.tail _ (.tail _ (.tail _ (.tail _ (.head _))))) (xsc (.tail _ (.tail _ (.tail _ (.tail _ (.tail _ (.head _)))))) (xsc (.tail _ (.tail _ (.tail _ (.tail _ (.tail _ (.tail _ (.head _))))))) (xsc (.tail _ (.tail _ (.tail _ (.tail _ (.tail _ (.tail _ (.tail _ (.head _)))))))) (xsc (.tail _ (.tail _ (.tail _ (.tail _ (.tail _ (.tail _ (.tail _ (.tail _ (.head _))))))))) (xsc (.head _) xsn)))))))) (show ([7, 8, 0, 1, 2, 3, 4, 5, 6] : List Nat).Nodup from by decide) (hK34 v0 v1 v2 v3 v4 v5 v6 (v7 + (1 : Int32)) M3)
      · skip
        refine xZ.adv (me := xm116) hP_116 3 (pc' := 34) (lv' := [(7, .int (v7 + (1 : Int32))), (6, .int (v6 + (1 : Int32))), (8, .int x3), (0, .ref v0), (1, .ref v1), (2, .int v2), (3, .int v3), (4, .int v4), (5, .int v5)]) (st' := []) rfl ?_
        exact xZ.sub (xsc (.tail _ (.tail _ (.tail _ (.head _)))) (xsc (.tail _ (.tail _ (.tail _ (.tail _ (.head _))))) (xsc (.tail _ (.tail _ (.tail _ (.tail _ (.tail _ (.head _)))))) (xsc (.tail _ (.tail _ (.tail _ (.tail _ (.tail _ (.tail _ (.head _))))))) (xsc (.tail _ (.tail _ (.tail _ (.tail _ (.tail _ (.tail _ (.tail _ (.head _)))))))) (xsc (.tail _ (.tail _ (.tail _ (.tail _ (.tail _ (.tail _ (.tail _ (.tail _ (.head _))))))))) (xsc (.tail _ (.head _)) (xsc (.head _) xsn)))))))) (show ([7, 6, 8, 0, 1, 2, 3, 4, 5] : List Nat).Nodup from by decide) (hK34 v0 v1 v2 v3 v4 v5 (v6 + (1 : Int32)) (v7 + (1 : Int32)) M3)
def f_Series_countBegins_34 (O : Nat → Option va_E) (f : Nat) : Nat → Nat → Nat → Int32 → Int32 → Int32 → Int32 → Int32 → Int32 → xM → Option (Int32 × xM)
  | 0, _, _, _, _, _, _, _, _, _ => none
  | n + 1, v0, v1, v2, v3, v4, v5, v6, v7, M =>
    (gI O M v0 10 7).bind fun x1 =>
    if x1 ≤ v7 then (
      some (v6, M)
    ) else
    (isO O M v0 10).bind fun _ =>
    xcl (f_Series_exceptionDay O f v0 v7 M) fun x2 M1 =>
    if x2 < v4 then (
      f_Series_countBegins_68 O f (f_Series_countBegins_34 O f n) v0 v1 v2 v3 v4 v5 v6 v7 M1
    ) else
    (isO O M1 v0 10).bind fun _ =>
    xcl (f_Series_exceptionDay O f v0 v7 M1) fun x3 M2 =>
    if v5 < x3 then (
      f_Series_countBegins_68 O f (f_Series_countBegins_34 O f n) v0 v1 v2 v3 v4 v5 v6 v7 M2
    ) else
    f_Series_countBegins_68 O f (f_Series_countBegins_34 O f n) v0 v1 v2 v3 v4 v5 (v6 + (-1 : Int32)) v7 M2
set_option maxRecDepth 20000 in
theorem k_f_Series_countBegins_34 (O : Nat → Option va_E) (f d : Nat) : ∀ (n : Nat) (v0 : Nat) (v1 : Nat) (v2 : Int32) (v3 : Int32) (v4 : Int32) (v5 : Int32) (v6 : Int32) (v7 : Int32) (M : xM), xZ oI O (d + 5) 116 34 [(0, .ref v0), (1, .ref v1), (2, .int v2), (3, .int v3), (4, .int v4), (5, .int v5), (6, .int v6), (7, .int v7)] [] M (f_Series_countBegins_34 O f n v0 v1 v2 v3 v4 v5 v6 v7 M) := by
  intro n
  induction n with
  | zero =>
    intro v0 v1 v2 v3 v4 v5 v6 v7 M
    exact xZ.no
  | succ n ih =>
    intro v0 v1 v2 v3 v4 v5 v6 v7 M
    unfold f_Series_countBegins_34
    refine xZ.adv (me := xm116) hP_116 2 (pc' := 37) (lv' := [(0, .ref v0), (1, .ref v1), (2, .int v2), (3, .int v3), (4, .int v4), (5, .int v5), (6, .int v6), (7, .int v7)]) (st' := [.ref v0, .int v7]) rfl ?_
    refine xZ.k_gI (me := xm116) hP_116 rfl (fun x1 => ?_)
    refine xZ.ic_ge (me := xm116) hP_116 rfl (fun h1 => ?_) (fun h1 => ?_)
    · skip
      refine xZ.adv (me := xm116) hP_116 1 (pc' := 116) (lv' := [(0, .ref v0), (1, .ref v1), (2, .int v2), (3, .int v3), (4, .int v4), (5, .int v5), (6, .int v6), (7, .int v7)]) (st' := [.int v6]) rfl ?_
      exact xZ.reti (me := xm116) hP_116 rfl rfl
    · skip
      refine xZ.adv (me := xm116) hP_116 2 (pc' := 46) (lv' := [(0, .ref v0), (1, .ref v1), (2, .int v2), (3, .int v3), (4, .int v4), (5, .int v5), (6, .int v6), (7, .int v7)]) (st' := [.int v7, .ref v0]) rfl ?_
      refine xZ.callv (κ := oI) (av := [.int v7]) (rest := []) (st' := fun x2 => [.int x2]) (k0 := v0) (me := xm116) hP_116 rfl (Or.inl rfl) ⟨rfl, by decide⟩ rfl rfl (Nat.le_of_ble_eq_true rfl) (by decide) hP_119 (Nat.le_of_ble_eq_true rfl) (fun _ => rfl) (k_f_Series_exceptionDay O f (d + 4) v0 v7 M) (fun x2 M1 => ?_)
      refine xZ.adv (me := xm116) hP_116 1 (pc' := 51) (lv' := [(0, .ref v0), (1, .ref v1), (2, .int v2), (3, .int v3), (4, .int v4), (5, .int v5), (6, .int v6), (7, .int v7)]) (st' := [.int v4, .int x2]) rfl ?_
      refine xZ.ic_lt (me := xm116) hP_116 rfl (fun h2 => ?_) (fun h2 => ?_)
      · skip
        exact (k_f_Series_countBegins_68 O f d (f_Series_countBegins_34 O f n) ih v0 v1 v2 v3 v4 v5 v6 v7 M1)
      · skip
        refine xZ.adv (me := xm116) hP_116 2 (pc' := 57) (lv' := [(0, .ref v0), (1, .ref v1), (2, .int v2), (3, .int v3), (4, .int v4), (5, .int v5), (6, .int v6), (7, .int v7)]) (st' := [.int v7, .ref v0]) rfl ?_
        refine xZ.callv (κ := oI) (av := [.int v7]) (rest := []) (st' := fun x3 => [.int x3]) (k0 := v0) (me := xm116) hP_116 rfl (Or.inl rfl) ⟨rfl, by decide⟩ rfl rfl (Nat.le_of_ble_eq_true rfl) (by decide) hP_119 (Nat.le_of_ble_eq_true rfl) (fun _ => rfl) (k_f_Series_exceptionDay O f (d + 4) v0 v7 M1) (fun x3 M2 => ?_)
        refine xZ.adv (me := xm116) hP_116 1 (pc' := 62) (lv' := [(0, .ref v0), (1, .ref v1), (2, .int v2), (3, .int v3), (4, .int v4), (5, .int v5), (6, .int v6), (7, .int v7)]) (st' := [.int v5, .int x3]) rfl ?_
        refine xZ.ic_gt (me := xm116) hP_116 rfl (fun h3 => ?_) (fun h3 => ?_)
        · skip
          exact (k_f_Series_countBegins_68 O f d (f_Series_countBegins_34 O f n) ih v0 v1 v2 v3 v4 v5 v6 v7 M2)
        · skip
          refine xZ.adv (me := xm116) hP_116 1 (pc' := 68) (lv' := [(6, .int (v6 + (-1 : Int32))), (0, .ref v0), (1, .ref v1), (2, .int v2), (3, .int v3), (4, .int v4), (5, .int v5), (7, .int v7)]) (st' := []) rfl ?_
          exact xZ.sub (xsc (.tail _ (.head _)) (xsc (.tail _ (.tail _ (.head _))) (xsc (.tail _ (.tail _ (.tail _ (.head _)))) (xsc (.tail _ (.tail _ (.tail _ (.tail _ (.head _))))) (xsc (.tail _ (.tail _ (.tail _ (.tail _ (.tail _ (.head _)))))) (xsc (.tail _ (.tail _ (.tail _ (.tail _ (.tail _ (.tail _ (.head _))))))) (xsc (.head _) (xsc (.tail _ (.tail _ (.tail _ (.tail _ (.tail _ (.tail _ (.tail _ (.head _)))))))) xsn)))))))) (show ([6, 0, 1, 2, 3, 4, 5, 7] : List Nat).Nodup from by decide) (k_f_Series_countBegins_68 O f d (f_Series_countBegins_34 O f n) ih v0 v1 v2 v3 v4 v5 (v6 + (-1 : Int32)) v7 M2)
def f_Series_countBegins (O : Nat → Option va_E) (f : Nat) (v0 : Nat) (v1 : Nat) (v2 : Int32) (v3 : Int32) (M : xM) : Option (Int32 × xM) :=
  (isO O M v0 10).bind fun _ =>
  xcl (f_Series_firstDayFrom O f v0 v1 v2 M) fun x1 M1 =>
  (isO O M1 v0 10).bind fun _ =>
  xcl (f_Series_firstDayFrom O f v0 v1 v3 M1) fun x2 M2 =>
  (gR O M2 v0 10 6).bind fun x3 =>
  (isO O M2 x3 9).bind fun _ =>
  xcl (f_Rule_count O f x3 x1 (x2 - (1 : Int32)) M2) fun x4 M3 =>
  f_Series_countBegins_34 O f f v0 v1 v2 v3 x1 (x2 - (1 : Int32)) x4 (0 : Int32) M3
set_option maxRecDepth 20000 in
theorem k_f_Series_countBegins (O : Nat → Option va_E) (f d : Nat) (v0 : Nat) (v1 : Nat) (v2 : Int32) (v3 : Int32) (M : xM) : xZ oI O (d + 5) 116 0 [(0, .ref v0), (1, .ref v1), (2, .int v2), (3, .int v3)] [] M (f_Series_countBegins O f v0 v1 v2 v3 M) := by
  unfold f_Series_countBegins
  refine xZ.adv (me := xm116) hP_116 3 (pc' := 3) (lv' := [(0, .ref v0), (1, .ref v1), (2, .int v2), (3, .int v3)]) (st' := [.int v2, .ref v1, .ref v0]) rfl ?_
  refine xZ.callv (κ := oI) (av := [.ref v1, .int v2]) (rest := []) (st' := fun x1 => [.int x1]) (k0 := v0) (me := xm116) hP_116 rfl (Or.inl rfl) ⟨rfl, by decide⟩ rfl rfl (Nat.le_of_ble_eq_true rfl) (by decide) hP_117 (Nat.le_of_ble_eq_true rfl) (fun _ => rfl) (k_f_Series_firstDayFrom O f (d + 0) v0 v1 v2 M) (fun x1 M1 => ?_)
  refine xZ.adv (me := xm116) hP_116 4 (pc' := 11) (lv' := [(4, .int x1), (0, .ref v0), (1, .ref v1), (2, .int v2), (3, .int v3)]) (st' := [.int v3, .ref v1, .ref v0]) rfl ?_
  refine xZ.callv (κ := oI) (av := [.ref v1, .int v3]) (rest := []) (st' := fun x2 => [.int x2]) (k0 := v0) (me := xm116) hP_116 rfl (Or.inl rfl) ⟨rfl, by decide⟩ rfl rfl (Nat.le_of_ble_eq_true rfl) (by decide) hP_117 (Nat.le_of_ble_eq_true rfl) (fun _ => rfl) (k_f_Series_firstDayFrom O f (d + 0) v0 v1 v3 M1) (fun x2 M2 => ?_)
  refine xZ.adv (me := xm116) hP_116 4 (pc' := 19) (lv' := [(5, .int (x2 - (1 : Int32))), (4, .int x1), (0, .ref v0), (1, .ref v1), (2, .int v2), (3, .int v3)]) (st' := [.ref v0]) rfl ?_
  refine xZ.k_gR (me := xm116) hP_116 rfl (fun x3 => ?_)
  refine xZ.adv (me := xm116) hP_116 2 (pc' := 26) (lv' := [(5, .int (x2 - (1 : Int32))), (4, .int x1), (0, .ref v0), (1, .ref v1), (2, .int v2), (3, .int v3)]) (st' := [.int (x2 - (1 : Int32)), .int x1, .ref x3]) rfl ?_
  refine xZ.callv (κ := oI) (av := [.int x1, .int (x2 - (1 : Int32))]) (rest := []) (st' := fun x4 => [.int x4]) (k0 := x3) (me := xm116) hP_116 rfl (Or.inl rfl) ⟨rfl, by decide⟩ rfl rfl (Nat.le_of_ble_eq_true rfl) (by decide) hP_94 (Nat.le_of_ble_eq_true rfl) (fun _ => rfl) (k_f_Rule_count O f (d + 0) x3 x1 (x2 - (1 : Int32)) M2) (fun x4 M3 => ?_)
  refine xZ.adv (me := xm116) hP_116 3 (pc' := 34) (lv' := [(7, .int (0 : Int32)), (6, .int x4), (5, .int (x2 - (1 : Int32))), (4, .int x1), (0, .ref v0), (1, .ref v1), (2, .int v2), (3, .int v3)]) (st' := []) rfl ?_
  exact xZ.sub (xsc (.tail _ (.tail _ (.tail _ (.tail _ (.head _))))) (xsc (.tail _ (.tail _ (.tail _ (.tail _ (.tail _ (.head _)))))) (xsc (.tail _ (.tail _ (.tail _ (.tail _ (.tail _ (.tail _ (.head _))))))) (xsc (.tail _ (.tail _ (.tail _ (.tail _ (.tail _ (.tail _ (.tail _ (.head _)))))))) (xsc (.tail _ (.tail _ (.tail _ (.head _)))) (xsc (.tail _ (.tail _ (.head _))) (xsc (.tail _ (.head _)) (xsc (.head _) xsn)))))))) (show ([7, 6, 5, 4, 0, 1, 2, 3] : List Nat).Nodup from by decide) (k_f_Series_countBegins_34 O f d f v0 v1 v2 v3 x1 (x2 - (1 : Int32)) x4 (0 : Int32) M3)
def f_Calendarhall_countDates (O : Nat → Option va_E) (f : Nat) (v0 : Nat) (v1 : Int32) (v2 : Int32) (v3 : Int32) (M : xM) : Option (Int32 × xM) :=
  (isO O M v0 12).bind fun _ =>
  xcl (f_Calendarhall_seriesNumbered O f v0 v1 M) fun x1 M1 =>
  xcl (f_Calendarhall_needPiece O f v2 v3 (525600 : Int32) M1) fun _ M2 =>
  (gR O M2 v0 12 0).bind fun x3 =>
  (isO O M2 x3 4).bind fun _ =>
  xcl (f_Hall_zoneOf O f x3 x1 M2) fun x4 M3 =>
  (isO O M3 x1 10).bind fun _ =>
  xcl (f_Series_countBegins O f x1 x4 v2 v3 M3) fun x5 M4 =>
  some (x5, M4)
set_option maxRecDepth 20000 in
theorem k_f_Calendarhall_countDates (O : Nat → Option va_E) (f d : Nat) (v0 : Nat) (v1 : Int32) (v2 : Int32) (v3 : Int32) (M : xM) : xZ oI O (d + 6) 113 0 [(0, .ref v0), (1, .int v1), (2, .int v2), (3, .int v3)] [] M (f_Calendarhall_countDates O f v0 v1 v2 v3 M) := by
  unfold f_Calendarhall_countDates
  refine xZ.adv (me := xm113) hP_113 2 (pc' := 2) (lv' := [(0, .ref v0), (1, .int v1), (2, .int v2), (3, .int v3)]) (st' := [.int v1, .ref v0]) rfl ?_
  refine xZ.callv (κ := oR) (av := [.int v1]) (rest := []) (st' := fun x1 => [.ref x1]) (k0 := v0) (me := xm113) hP_113 rfl (Or.inl rfl) ⟨rfl, by decide⟩ rfl rfl (Nat.le_of_ble_eq_true rfl) (by decide) hP_79 (Nat.le_of_ble_eq_true rfl) (fun _ => rfl) (k_f_Calendarhall_seriesNumbered O f (d + 4) v0 v1 M) (fun x1 M1 => ?_)
  refine xZ.adv (me := xm113) hP_113 4 (pc' := 12) (lv' := [(4, .ref x1), (0, .ref v0), (1, .int v1), (2, .int v2), (3, .int v3)]) (st' := [.int (525600 : Int32), .int v3, .int v2]) rfl ?_
  refine xZ.calls (κ := oU) (av := [.int v2, .int v3, .int (525600 : Int32)]) (rest := []) (st' := fun _ => []) (me := xm113) hP_113 rfl rfl rfl (Nat.le_of_ble_eq_true rfl) (by decide) hP_114 (Nat.le_of_ble_eq_true rfl) (fun _ => rfl) (k_f_Calendarhall_needPiece O f (d + 4) v2 v3 (525600 : Int32) M1) (fun _ M2 => ?_)
  refine xZ.adv (me := xm113) hP_113 2 (pc' := 18) (lv' := [(4, .ref x1), (0, .ref v0), (1, .int v1), (2, .int v2), (3, .int v3)]) (st' := [.ref v0, .ref x1]) rfl ?_
  refine xZ.k_gR (me := xm113) hP_113 rfl (fun x3 => ?_)
  refine xZ.adv (me := xm113) hP_113 1 (pc' := 23) (lv' := [(4, .ref x1), (0, .ref v0), (1, .int v1), (2, .int v2), (3, .int v3)]) (st' := [.ref x1, .ref x3, .ref x1]) rfl ?_
  refine xZ.callv (κ := oR) (av := [.ref x1]) (rest := [.ref x1]) (st' := fun x4 => [.ref x4, .ref x1]) (k0 := x3) (me := xm113) hP_113 rfl (Or.inl rfl) ⟨rfl, by decide⟩ rfl rfl (Nat.le_of_ble_eq_true rfl) (by decide) hP_102 (Nat.le_of_ble_eq_true rfl) (fun _ => rfl) (k_f_Hall_zoneOf O f (d + 4) x3 x1 M2) (fun x4 M3 => ?_)
  refine xZ.adv (me := xm113) hP_113 2 (pc' := 28) (lv' := [(4, .ref x1), (0, .ref v0), (1, .int v1), (2, .int v2), (3, .int v3)]) (st' := [.int v3, .int v2, .ref x4, .ref x1]) rfl ?_
  refine xZ.callv (κ := oI) (av := [.ref x4, .int v2, .int v3]) (rest := []) (st' := fun x5 => [.int x5]) (k0 := x1) (me := xm113) hP_113 rfl (Or.inl rfl) ⟨rfl, by decide⟩ rfl rfl (Nat.le_of_ble_eq_true rfl) (by decide) hP_116 (Nat.le_of_ble_eq_true rfl) (fun _ => rfl) (k_f_Series_countBegins O f (d + 0) x1 x4 v2 v3 M3) (fun x5 M4 => ?_)
  exact xZ.reti (me := xm113) hP_113 rfl rfl
def f_Dates_row (O : Nat → Option va_E) (f : Nat) (v0 : Int32) (v1 : Int32) (v2 : Int32) (v3 : Int32) (M : xM) : Option (Int64 × xM) :=
  xlet (((((Int32.toInt64 v0) <<< (Int32.toInt64 (23 : Int32) &&& 63)) ||| ((Int32.toInt64 v1) <<< (Int32.toInt64 (19 : Int32) &&& 63))) ||| ((Int32.toInt64 v2) <<< (Int32.toInt64 (1 : Int32) &&& 63))) ||| (Int32.toInt64 v3)) fun x1 =>
  some (x1, M)
set_option maxRecDepth 20000 in
theorem k_f_Dates_row (O : Nat → Option va_E) (f d : Nat) (v0 : Int32) (v1 : Int32) (v2 : Int32) (v3 : Int32) (M : xM) : xZ oL O (d + 0) 122 0 [(0, .int v0), (1, .int v1), (2, .int v2), (3, .int v3)] [] M (f_Dates_row O f v0 v1 v2 v3 M) := by
  unfold f_Dates_row
  refine xZ.adv (me := xm122) hP_122 17 (pc' := 19) (lv' := [(0, .int v0), (1, .int v1), (2, .int v2), (3, .int v3)]) (st' := [.long (((((Int32.toInt64 v0) <<< (Int32.toInt64 (23 : Int32) &&& 63)) ||| ((Int32.toInt64 v1) <<< (Int32.toInt64 (19 : Int32) &&& 63))) ||| ((Int32.toInt64 v2) <<< (Int32.toInt64 (1 : Int32) &&& 63))) ||| (Int32.toInt64 v3))]) rfl ?_
  refine xZ.letI (v := (((((Int32.toInt64 v0) <<< (Int32.toInt64 (23 : Int32) &&& 63)) ||| ((Int32.toInt64 v1) <<< (Int32.toInt64 (19 : Int32) &&& 63))) ||| ((Int32.toInt64 v2) <<< (Int32.toInt64 (1 : Int32) &&& 63))) ||| (Int32.toInt64 v3))) (lvf := fun x1 => [(0, .int v0), (1, .int v1), (2, .int v2), (3, .int v3)]) (stf := fun x1 => [.long x1]) ?_
  intro x1
  exact xZ.retl (me := xm122) hP_122 rfl rfl
def f_Series_firstRow_178 (O : Nat → Option va_E) (f : Nat) (K108 : Nat → Nat → Int32 → Int64 → Int32 → xM → Option (Int64 × xM)) (v0 : Nat) (v1 : Nat) (v2 : Int32) (v6 : Int32) (v8 : Int64) (M : xM) : Option (Int64 × xM) :=
  K108 v0 v1 v2 v8 (v6 + (1 : Int32)) M
set_option maxRecDepth 20000 in
theorem k_f_Series_firstRow_178 (O : Nat → Option va_E) (f d : Nat) (K108 : Nat → Nat → Int32 → Int64 → Int32 → xM → Option (Int64 × xM)) (hK108 : ∀ (v0 : Nat) (v1 : Nat) (v2 : Int32) (v3 : Int64) (v6 : Int32) M, xZ oL O (d + 5) 121 108 [(0, .ref v0), (1, .ref v1), (2, .int v2), (3, .long v3), (6, .int v6)] [] M (K108 v0 v1 v2 v3 v6 M)) (v0 : Nat) (v1 : Nat) (v2 : Int32) (v6 : Int32) (v8 : Int64) (M : xM) : xZ oL O (d + 5) 121 178 [(0, .ref v0), (1, .ref v1), (2, .int v2), (6, .int v6), (8, .long v8)] [] M (f_Series_firstRow_178 O f K108 v0 v1 v2 v6 v8 M) := by
  unfold f_Series_firstRow_178
  refine xZ.adv (me := xm121) hP_121 4 (pc' := 108) (lv' := [(6, .int (v6 + (1 : Int32))), (3, .long v8), (0, .ref v0), (1, .ref v1), (2, .int v2), (8, .long v8)]) (st' := []) rfl ?_
  exact xZ.sub (xsc (.tail _ (.tail _ (.head _))) (xsc (.tail _ (.tail _ (.tail _ (.head _)))) (xsc (.tail _ (.tail _ (.tail _ (.tail _ (.head _))))) (xsc (.tail _ (.head _)) (xsc (.head _) xsn))))) (show ([6, 3, 0, 1, 2, 8] : List Nat).Nodup from by decide) (hK108 v0 v1 v2 v8 (v6 + (1 : Int32)) M)
def f_Series_firstRow_108 (O : Nat → Option va_E) (f : Nat) : Nat → Nat → Nat → Int32 → Int64 → Int32 → xM → Option (Int64 × xM)
  | 0, _, _, _, _, _, _ => none
  | n + 1, v0, v1, v2, v3, v6, M =>
    (gI O M v0 10 7).bind fun x1 =>
    if x1 ≤ v6 then (
      some (v3, M)
    ) else
    (isO O M v0 10).bind fun _ =>
    xcl (f_Series_exceptionTo O f v0 v6 M) fun x2 M1 =>
    if x2 = (-1 : Int32) then (
      f_Series_firstRow_108 O f n v0 v1 v2 v3 (v6 + (1 : Int32)) M1
    ) else
    (isO O M1 v0 10).bind fun _ =>
    xcl (f_Series_exceptionTo O f v0 v6 M1) fun x3 M2 =>
    (isO O M2 v1 11).bind fun _ =>
    xcl (f_Zone_commonOf O f v1 x3 M2) fun x4 M3 =>
    (isO O M3 v0 10).bind fun _ =>
    xcl (f_Series_exceptionDay O f v0 v6 M3) fun x5 M4 =>
    xcl (f_Dates_row O f x4 (0 : Int32) x5 (0 : Int32) M4) fun x6 M5 =>
    if x4 < v2 then (
      f_Series_firstRow_108 O f n v0 v1 v2 v3 (v6 + (1 : Int32)) M5
    ) else
    if (lg_cmp v3 (-1 : Int64)) = 0 then (
      f_Series_firstRow_178 O f (f_Series_firstRow_108 O f n) v0 v1 v2 v6 x6 M5
    ) else
    if 0 ≤ (lg_cmp x6 v3) then (
      f_Series_firstRow_108 O f n v0 v1 v2 v3 (v6 + (1 : Int32)) M5
    ) else
    f_Series_firstRow_178 O f (f_Series_firstRow_108 O f n) v0 v1 v2 v6 x6 M5
set_option maxRecDepth 20000 in
theorem k_f_Series_firstRow_108 (O : Nat → Option va_E) (f d : Nat) : ∀ (n : Nat) (v0 : Nat) (v1 : Nat) (v2 : Int32) (v3 : Int64) (v6 : Int32) (M : xM), xZ oL O (d + 5) 121 108 [(0, .ref v0), (1, .ref v1), (2, .int v2), (3, .long v3), (6, .int v6)] [] M (f_Series_firstRow_108 O f n v0 v1 v2 v3 v6 M) := by
  intro n
  induction n with
  | zero =>
    intro v0 v1 v2 v3 v6 M
    exact xZ.no
  | succ n ih =>
    intro v0 v1 v2 v3 v6 M
    unfold f_Series_firstRow_108
    refine xZ.adv (me := xm121) hP_121 2 (pc' := 111) (lv' := [(0, .ref v0), (1, .ref v1), (2, .int v2), (3, .long v3), (6, .int v6)]) (st' := [.ref v0, .int v6]) rfl ?_
    refine xZ.k_gI (me := xm121) hP_121 rfl (fun x1 => ?_)
    refine xZ.ic_ge (me := xm121) hP_121 rfl (fun h1 => ?_) (fun h1 => ?_)
    · skip
      refine xZ.adv (me := xm121) hP_121 1 (pc' := 188) (lv' := [(0, .ref v0), (1, .ref v1), (2, .int v2), (3, .long v3), (6, .int v6)]) (st' := [.long v3]) rfl ?_
      exact xZ.retl (me := xm121) hP_121 rfl rfl
    · skip
      refine xZ.adv (me := xm121) hP_121 2 (pc' := 120) (lv' := [(0, .ref v0), (1, .ref v1), (2, .int v2), (3, .long v3), (6, .int v6)]) (st' := [.int v6, .ref v0]) rfl ?_
      refine xZ.callv (κ := oI) (av := [.int v6]) (rest := []) (st' := fun x2 => [.int x2]) (k0 := v0) (me := xm121) hP_121 rfl (Or.inl rfl) ⟨rfl, by decide⟩ rfl rfl (Nat.le_of_ble_eq_true rfl) (by decide) hP_108 (Nat.le_of_ble_eq_true rfl) (fun _ => rfl) (k_f_Series_exceptionTo O f (d + 4) v0 v6 M) (fun x2 M1 => ?_)
      refine xZ.adv (me := xm121) hP_121 1 (pc' := 124) (lv' := [(0, .ref v0), (1, .ref v1), (2, .int v2), (3, .long v3), (6, .int v6)]) (st' := [.int (-1 : Int32), .int x2]) rfl ?_
      refine xZ.ic_ne (me := xm121) hP_121 rfl (fun h2 => ?_) (fun h2 => ?_)
      · skip
        refine xZ.adv (me := xm121) hP_121 3 (pc' := 108) (lv' := [(6, .int (v6 + (1 : Int32))), (0, .ref v0), (1, .ref v1), (2, .int v2), (3, .long v3)]) (st' := []) rfl ?_
        exact xZ.sub (xsc (.tail _ (.head _)) (xsc (.tail _ (.tail _ (.head _))) (xsc (.tail _ (.tail _ (.tail _ (.head _)))) (xsc (.tail _ (.tail _ (.tail _ (.tail _ (.head _))))) (xsc (.head _) xsn))))) (show ([6, 0, 1, 2, 3] : List Nat).Nodup from by decide) (ih v0 v1 v2 v3 (v6 + (1 : Int32)) M1)
      · skip
        refine xZ.adv (me := xm121) hP_121 3 (pc' := 134) (lv' := [(0, .ref v0), (1, .ref v1), (2, .int v2), (3, .long v3), (6, .int v6)]) (st' := [.int v6, .ref v0, .ref v1]) rfl ?_
        refine xZ.callv (κ := oI) (av := [.int v6]) (rest := [.ref v1]) (st' := fun x3 => [.int x3, .ref v1]) (k0 := v0) (me := xm121) hP_121 rfl (Or.inl rfl) ⟨rfl, by decide⟩ rfl rfl (Nat.le_of_ble_eq_true rfl) (by decide) hP_108 (Nat.le_of_ble_eq_true rfl) (fun _ => rfl) (k_f_Series_exceptionTo O f (d + 4) v0 v6 M1) (fun x3 M2 => ?_)
        refine xZ.callv (κ := oI) (av := [.int x3]) (rest := []) (st' := fun x4 => [.int x4]) (k0 := v1) (me := xm121) hP_121 rfl (Or.inl rfl) ⟨rfl, by decide⟩ rfl rfl (Nat.le_of_ble_eq_true rfl) (by decide) hP_105 (Nat.le_of_ble_eq_true rfl) (fun _ => rfl) (k_f_Zone_commonOf O f (d + 1) v1 x3 M2) (fun x4 M3 => ?_)
        refine xZ.adv (me := xm121) hP_121 5 (pc' := 148) (lv' := [(7, .int x4), (0, .ref v0), (1, .ref v1), (2, .int v2), (3, .long v3), (6, .int v6)]) (st' := [.int v6, .ref v0, .int (0 : Int32), .int x4]) rfl ?_
        refine xZ.callv (κ := oI) (av := [.int v6]) (rest := [.int (0 : Int32), .int x4]) (st' := fun x5 => [.int x5, .int (0 : Int32), .int x4]) (k0 := v0) (me := xm121) hP_121 rfl (Or.inl rfl) ⟨rfl, by decide⟩ rfl rfl (Nat.le_of_ble_eq_true rfl) (by decide) hP_119 (Nat.le_of_ble_eq_true rfl) (fun _ => rfl) (k_f_Series_exceptionDay O f (d + 4) v0 v6 M3) (fun x5 M4 => ?_)
        refine xZ.adv (me := xm121) hP_121 1 (pc' := 152) (lv' := [(7, .int x4), (0, .ref v0), (1, .ref v1), (2, .int v2), (3, .long v3), (6, .int v6)]) (st' := [.int (0 : Int32), .int x5, .int (0 : Int32), .int x4]) rfl ?_
        refine xZ.calls (κ := oL) (av := [.int x4, .int (0 : Int32), .int x5, .int (0 : Int32)]) (rest := []) (st' := fun x6 => [.long x6]) (me := xm121) hP_121 rfl rfl rfl (Nat.le_of_ble_eq_true rfl) (by decide) hP_122 (Nat.le_of_ble_eq_true rfl) (fun _ => rfl) (k_f_Dates_row O f (d + 4) x4 (0 : Int32) x5 (0 : Int32) M4) (fun x6 M5 => ?_)
        refine xZ.adv (me := xm121) hP_121 3 (pc' := 160) (lv' := [(8, .long x6), (7, .int x4), (0, .ref v0), (1, .ref v1), (2, .int v2), (3, .long v3), (6, .int v6)]) (st' := [.int v2, .int x4]) rfl ?_
        refine xZ.ic_lt (me := xm121) hP_121 rfl (fun h3 => ?_) (fun h3 => ?_)
        · skip
          refine xZ.adv (me := xm121) hP_121 2 (pc' := 108) (lv' := [(6, .int (v6 + (1 : Int32))), (8, .long x6), (7, .int x4), (0, .ref v0), (1, .ref v1), (2, .int v2), (3, .long v3)]) (st' := []) rfl ?_
          exact xZ.sub (xsc (.tail _ (.tail _ (.tail _ (.head _)))) (xsc (.tail _ (.tail _ (.tail _ (.tail _ (.head _))))) (xsc (.tail _ (.tail _ (.tail _ (.tail _ (.tail _ (.head _)))))) (xsc (.tail _ (.tail _ (.tail _ (.tail _ (.tail _ (.tail _ (.head _))))))) (xsc (.head _) xsn))))) (show ([6, 8, 7, 0, 1, 2, 3] : List Nat).Nodup from by decide) (ih v0 v1 v2 v3 (v6 + (1 : Int32)) M5)
        · skip
          refine xZ.adv (me := xm121) hP_121 3 (pc' := 168) (lv' := [(8, .long x6), (7, .int x4), (0, .ref v0), (1, .ref v1), (2, .int v2), (3, .long v3), (6, .int v6)]) (st' := [.int (lg_cmp v3 (-1 : Int64))]) rfl ?_
          refine xZ.if_eq (me := xm121) hP_121 rfl (fun h4 => ?_) (fun h4 => ?_)
          · skip
            exact xZ.sub (xsc (.tail _ (.tail _ (.head _))) (xsc (.tail _ (.tail _ (.tail _ (.head _)))) (xsc (.tail _ (.tail _ (.tail _ (.tail _ (.head _))))) (xsc (.tail _ (.tail _ (.tail _ (.tail _ (.tail _ (.tail _ (.head _))))))) (xsc (.head _) xsn))))) (show ([8, 7, 0, 1, 2, 3, 6] : List Nat).Nodup from by decide) (k_f_Series_firstRow_178 O f d (f_Series_firstRow_108 O f n) ih v0 v1 v2 v6 x6 M5)
          · skip
            refine xZ.adv (me := xm121) hP_121 3 (pc' := 175) (lv' := [(8, .long x6), (7, .int x4), (0, .ref v0), (1, .ref v1), (2, .int v2), (3, .long v3), (6, .int v6)]) (st' := [.int (lg_cmp x6 v3)]) rfl ?_
            refine xZ.if_ge (me := xm121) hP_121 rfl (fun h5 => ?_) (fun h5 => ?_)
            · skip
              refine xZ.adv (me := xm121) hP_121 2 (pc' := 108) (lv' := [(6, .int (v6 + (1 : Int32))), (8, .long x6), (7, .int x4), (0, .ref v0), (1, .ref v1), (2, .int v2), (3, .long v3)]) (st' := []) rfl ?_
              exact xZ.sub (xsc (.tail _ (.tail _ (.tail _ (.head _)))) (xsc (.tail _ (.tail _ (.tail _ (.tail _ (.head _))))) (xsc (.tail _ (.tail _ (.tail _ (.tail _ (.tail _ (.head _)))))) (xsc (.tail _ (.tail _ (.tail _ (.tail _ (.tail _ (.tail _ (.head _))))))) (xsc (.head _) xsn))))) (show ([6, 8, 7, 0, 1, 2, 3] : List Nat).Nodup from by decide) (ih v0 v1 v2 v3 (v6 + (1 : Int32)) M5)
            · skip
              exact xZ.sub (xsc (.tail _ (.tail _ (.head _))) (xsc (.tail _ (.tail _ (.tail _ (.head _)))) (xsc (.tail _ (.tail _ (.tail _ (.tail _ (.head _))))) (xsc (.tail _ (.tail _ (.tail _ (.tail _ (.tail _ (.tail _ (.head _))))))) (xsc (.head _) xsn))))) (show ([8, 7, 0, 1, 2, 3, 6] : List Nat).Nodup from by decide) (k_f_Series_firstRow_178 O f d (f_Series_firstRow_108 O f n) ih v0 v1 v2 v6 x6 M5)
def f_Series_firstRow_105 (O : Nat → Option va_E) (f : Nat) (v0 : Nat) (v1 : Nat) (v2 : Int32) (v3 : Int64) (M : xM) : Option (Int64 × xM) :=
  f_Series_firstRow_108 O f f v0 v1 v2 v3 (0 : Int32) M
set_option maxRecDepth 20000 in
theorem k_f_Series_firstRow_105 (O : Nat → Option va_E) (f d : Nat) (v0 : Nat) (v1 : Nat) (v2 : Int32) (v3 : Int64) (M : xM) : xZ oL O (d + 5) 121 105 [(0, .ref v0), (1, .ref v1), (2, .int v2), (3, .long v3)] [] M (f_Series_firstRow_105 O f v0 v1 v2 v3 M) := by
  unfold f_Series_firstRow_105
  refine xZ.adv (me := xm121) hP_121 2 (pc' := 108) (lv' := [(6, .int (0 : Int32)), (0, .ref v0), (1, .ref v1), (2, .int v2), (3, .long v3)]) (st' := []) rfl ?_
  exact xZ.sub (xsc (.tail _ (.head _)) (xsc (.tail _ (.tail _ (.head _))) (xsc (.tail _ (.tail _ (.tail _ (.head _)))) (xsc (.tail _ (.tail _ (.tail _ (.tail _ (.head _))))) (xsc (.head _) xsn))))) (show ([6, 0, 1, 2, 3] : List Nat).Nodup from by decide) (k_f_Series_firstRow_108 O f d f v0 v1 v2 v3 (0 : Int32) M)
def f_Series_firstRow_86 (O : Nat → Option va_E) (f : Nat) (K22 : Nat → Nat → Int32 → Int64 → Int32 → Int32 → xM → Option (Int64 × xM)) (v0 : Nat) (v1 : Nat) (v2 : Int32) (v3 : Int64) (v5 : Int32) (v6 : Int32) (M : xM) : Option (Int64 × xM) :=
  (gR O M v0 10 6).bind fun x1 =>
  (isO O M x1 9).bind fun _ =>
  xcl (f_Rule_next O f x1 (v5 + (1 : Int32)) M) fun x2 M1 =>
  K22 v0 v1 v2 v3 x2 (v6 + (1 : Int32)) M1
set_option maxRecDepth 20000 in
theorem k_f_Series_firstRow_86 (O : Nat → Option va_E) (f d : Nat) (K22 : Nat → Nat → Int32 → Int64 → Int32 → Int32 → xM → Option (Int64 × xM)) (hK22 : ∀ (v0 : Nat) (v1 : Nat) (v2 : Int32) (v3 : Int64) (v5 : Int32) (v6 : Int32) M, xZ oL O (d + 5) 121 22 [(0, .ref v0), (1, .ref v1), (2, .int v2), (3, .long v3), (5, .int v5), (6, .int v6)] [] M (K22 v0 v1 v2 v3 v5 v6 M)) (v0 : Nat) (v1 : Nat) (v2 : Int32) (v3 : Int64) (v5 : Int32) (v6 : Int32) (M : xM) : xZ oL O (d + 5) 121 86 [(0, .ref v0), (1, .ref v1), (2, .int v2), (3, .long v3), (5, .int v5), (6, .int v6)] [] M (f_Series_firstRow_86 O f K22 v0 v1 v2 v3 v5 v6 M) := by
  unfold f_Series_firstRow_86
  refine xZ.adv (me := xm121) hP_121 1 (pc' := 87) (lv' := [(0, .ref v0), (1, .ref v1), (2, .int v2), (3, .long v3), (5, .int v5), (6, .int v6)]) (st' := [.ref v0]) rfl ?_
  refine xZ.k_gR (me := xm121) hP_121 rfl (fun x1 => ?_)
  refine xZ.adv (me := xm121) hP_121 3 (pc' := 94) (lv' := [(0, .ref v0), (1, .ref v1), (2, .int v2), (3, .long v3), (5, .int v5), (6, .int v6)]) (st' := [.int (v5 + (1 : Int32)), .ref x1]) rfl ?_
  refine xZ.callv (κ := oI) (av := [.int (v5 + (1 : Int32))]) (rest := []) (st' := fun x2 => [.int x2]) (k0 := x1) (me := xm121) hP_121 rfl (Or.inl rfl) ⟨rfl, by decide⟩ rfl rfl (Nat.le_of_ble_eq_true rfl) (by decide) hP_45 (Nat.le_of_ble_eq_true rfl) (fun _ => rfl) (k_f_Rule_next O f (d + 0) x1 (v5 + (1 : Int32)) M) (fun x2 M1 => ?_)
  refine xZ.adv (me := xm121) hP_121 3 (pc' := 22) (lv' := [(6, .int (v6 + (1 : Int32))), (5, .int x2), (0, .ref v0), (1, .ref v1), (2, .int v2), (3, .long v3)]) (st' := []) rfl ?_
  exact xZ.sub (xsc (.tail _ (.tail _ (.head _))) (xsc (.tail _ (.tail _ (.tail _ (.head _)))) (xsc (.tail _ (.tail _ (.tail _ (.tail _ (.head _))))) (xsc (.tail _ (.tail _ (.tail _ (.tail _ (.tail _ (.head _)))))) (xsc (.tail _ (.head _)) (xsc (.head _) xsn)))))) (show ([6, 5, 0, 1, 2, 3] : List Nat).Nodup from by decide) (hK22 v0 v1 v2 v3 x2 (v6 + (1 : Int32)) M1)
def f_Series_firstRow_22 (O : Nat → Option va_E) (f : Nat) : Nat → Nat → Nat → Int32 → Int64 → Int32 → Int32 → xM → Option (Int64 × xM)
  | 0, _, _, _, _, _, _, _ => none
  | n + 1, v0, v1, v2, v3, v5, v6, M =>
    if (12 : Int32) < v6 then (
      f_Series_firstRow_105 O f v0 v1 v2 v3 M
    ) else
    if v5 = (-1 : Int32) then (
      f_Series_firstRow_105 O f v0 v1 v2 v3 M
    ) else
    if (lg_cmp v3 (-1 : Int64)) = 0 then (
      (gI O M v0 10 2).bind fun x1 =>
      (isO O M v1 11).bind fun _ =>
      xcl (f_Zone_commonOf O f v1 ((v5 * (1440 : Int32)) + x1) M) fun x2 M1 =>
      if x2 < v2 then (
        f_Series_firstRow_86 O f (f_Series_firstRow_22 O f n) v0 v1 v2 v3 v5 v6 M1
      ) else
      (isO O M1 v0 10).bind fun _ =>
      xcl (f_Series_exceptionOf O f v0 v5 M1) fun x3 M2 =>
      if x3 = (-1 : Int32) then (
        xcl (f_Dates_row O f x2 (0 : Int32) v5 (0 : Int32) M2) fun x4 M3 =>
        f_Series_firstRow_86 O f (f_Series_firstRow_22 O f n) v0 v1 v2 x4 v5 v6 M3
      ) else
      f_Series_firstRow_86 O f (f_Series_firstRow_22 O f n) v0 v1 v2 v3 v5 v6 M2
    ) else
    f_Series_firstRow_105 O f v0 v1 v2 v3 M
set_option maxRecDepth 20000 in
theorem k_f_Series_firstRow_22 (O : Nat → Option va_E) (f d : Nat) : ∀ (n : Nat) (v0 : Nat) (v1 : Nat) (v2 : Int32) (v3 : Int64) (v5 : Int32) (v6 : Int32) (M : xM), xZ oL O (d + 5) 121 22 [(0, .ref v0), (1, .ref v1), (2, .int v2), (3, .long v3), (5, .int v5), (6, .int v6)] [] M (f_Series_firstRow_22 O f n v0 v1 v2 v3 v5 v6 M) := by
  intro n
  induction n with
  | zero =>
    intro v0 v1 v2 v3 v5 v6 M
    exact xZ.no
  | succ n ih =>
    intro v0 v1 v2 v3 v5 v6 M
    unfold f_Series_firstRow_22
    refine xZ.adv (me := xm121) hP_121 2 (pc' := 26) (lv' := [(0, .ref v0), (1, .ref v1), (2, .int v2), (3, .long v3), (5, .int v5), (6, .int v6)]) (st' := [.int (12 : Int32), .int v6]) rfl ?_
    refine xZ.ic_gt (me := xm121) hP_121 rfl (fun h1 => ?_) (fun h1 => ?_)
    · skip
      exact xZ.sub (xsc (.head _) (xsc (.tail _ (.head _)) (xsc (.tail _ (.tail _ (.head _))) (xsc (.tail _ (.tail _ (.tail _ (.head _)))) xsn)))) (show ([0, 1, 2, 3, 5, 6] : List Nat).Nodup from by decide) (k_f_Series_firstRow_105 O f d v0 v1 v2 v3 M)
    · skip
      refine xZ.adv (me := xm121) hP_121 2 (pc' := 32) (lv' := [(0, .ref v0), (1, .ref v1), (2, .int v2), (3, .long v3), (5, .int v5), (6, .int v6)]) (st' := [.int (-1 : Int32), .int v5]) rfl ?_
      refine xZ.ic_eq (me := xm121) hP_121 rfl (fun h2 => ?_) (fun h2 => ?_)
      · skip
        exact xZ.sub (xsc (.head _) (xsc (.tail _ (.head _)) (xsc (.tail _ (.tail _ (.head _))) (xsc (.tail _ (.tail _ (.tail _ (.head _)))) xsn)))) (show ([0, 1, 2, 3, 5, 6] : List Nat).Nodup from by decide) (k_f_Series_firstRow_105 O f d v0 v1 v2 v3 M)
      · skip
        refine xZ.adv (me := xm121) hP_121 3 (pc' := 40) (lv' := [(0, .ref v0), (1, .ref v1), (2, .int v2), (3, .long v3), (5, .int v5), (6, .int v6)]) (st' := [.int (lg_cmp v3 (-1 : Int64))]) rfl ?_
        refine xZ.if_ne (me := xm121) hP_121 rfl (fun h3 => ?_) (fun h3 => ?_)
        · skip
          refine xZ.adv (me := xm121) hP_121 5 (pc' := 51) (lv' := [(0, .ref v0), (1, .ref v1), (2, .int v2), (3, .long v3), (5, .int v5), (6, .int v6)]) (st' := [.ref v0, .int (v5 * (1440 : Int32)), .ref v1]) rfl ?_
          refine xZ.k_gI (me := xm121) hP_121 rfl (fun x1 => ?_)
          refine xZ.adv (me := xm121) hP_121 1 (pc' := 55) (lv' := [(0, .ref v0), (1, .ref v1), (2, .int v2), (3, .long v3), (5, .int v5), (6, .int v6)]) (st' := [.int ((v5 * (1440 : Int32)) + x1), .ref v1]) rfl ?_
          refine xZ.callv (κ := oI) (av := [.int ((v5 * (1440 : Int32)) + x1)]) (rest := []) (st' := fun x2 => [.int x2]) (k0 := v1) (me := xm121) hP_121 rfl (Or.inl rfl) ⟨rfl, by decide⟩ rfl rfl (Nat.le_of_ble_eq_true rfl) (by decide) hP_105 (Nat.le_of_ble_eq_true rfl) (fun _ => rfl) (k_f_Zone_commonOf O f (d + 1) v1 ((v5 * (1440 : Int32)) + x1) M) (fun x2 M1 => ?_)
          refine xZ.adv (me := xm121) hP_121 3 (pc' := 63) (lv' := [(7, .int x2), (0, .ref v0), (1, .ref v1), (2, .int v2), (3, .long v3), (5, .int v5), (6, .int v6)]) (st' := [.int v2, .int x2]) rfl ?_
          refine xZ.ic_lt (me := xm121) hP_121 rfl (fun h4 => ?_) (fun h4 => ?_)
          · skip
            exact xZ.sub (xsc (.tail _ (.head _)) (xsc (.tail _ (.tail _ (.head _))) (xsc (.tail _ (.tail _ (.tail _ (.head _)))) (xsc (.tail _ (.tail _ (.tail _ (.tail _ (.head _))))) (xsc (.tail _ (.tail _ (.tail _ (.tail _ (.tail _ (.head _)))))) (xsc (.tail _ (.tail _ (.tail _ (.tail _ (.tail _ (.tail _ (.head _))))))) xsn)))))) (show ([7, 0, 1, 2, 3, 5, 6] : List Nat).Nodup from by decide) (k_f_Series_firstRow_86 O f d (f_Series_firstRow_22 O f n) ih v0 v1 v2 v3 v5 v6 M1)
          · skip
            refine xZ.adv (me := xm121) hP_121 2 (pc' := 69) (lv' := [(7, .int x2), (0, .ref v0), (1, .ref v1), (2, .int v2), (3, .long v3), (5, .int v5), (6, .int v6)]) (st' := [.int v5, .ref v0]) rfl ?_
            refine xZ.callv (κ := oI) (av := [.int v5]) (rest := []) (st' := fun x3 => [.int x3]) (k0 := v0) (me := xm121) hP_121 rfl (Or.inl rfl) ⟨rfl, by decide⟩ rfl rfl (Nat.le_of_ble_eq_true rfl) (by decide) hP_104 (Nat.le_of_ble_eq_true rfl) (fun _ => rfl) (k_f_Series_exceptionOf O f (d + 4) v0 v5 M1) (fun x3 M2 => ?_)
            refine xZ.adv (me := xm121) hP_121 1 (pc' := 73) (lv' := [(7, .int x2), (0, .ref v0), (1, .ref v1), (2, .int v2), (3, .long v3), (5, .int v5), (6, .int v6)]) (st' := [.int (-1 : Int32), .int x3]) rfl ?_
            refine xZ.ic_ne (me := xm121) hP_121 rfl (fun h5 => ?_) (fun h5 => ?_)
            · skip
              refine xZ.adv (me := xm121) hP_121 4 (pc' := 82) (lv' := [(7, .int x2), (0, .ref v0), (1, .ref v1), (2, .int v2), (3, .long v3), (5, .int v5), (6, .int v6)]) (st' := [.int (0 : Int32), .int v5, .int (0 : Int32), .int x2]) rfl ?_
              refine xZ.calls (κ := oL) (av := [.int x2, .int (0 : Int32), .int v5, .int (0 : Int32)]) (rest := []) (st' := fun x4 => [.long x4]) (me := xm121) hP_121 rfl rfl rfl (Nat.le_of_ble_eq_true rfl) (by decide) hP_122 (Nat.le_of_ble_eq_true rfl) (fun _ => rfl) (k_f_Dates_row O f (d + 4) x2 (0 : Int32) v5 (0 : Int32) M2) (fun x4 M3 => ?_)
              refine xZ.adv (me := xm121) hP_121 1 (pc' := 86) (lv' := [(3, .long x4), (7, .int x2), (0, .ref v0), (1, .ref v1), (2, .int v2), (5, .int v5), (6, .int v6)]) (st' := []) rfl ?_
              exact xZ.sub (xsc (.tail _ (.tail _ (.head _))) (xsc (.tail _ (.tail _ (.tail _ (.head _)))) (xsc (.tail _ (.tail _ (.tail _ (.tail _ (.head _))))) (xsc (.head _) (xsc (.tail _ (.tail _ (.tail _ (.tail _ (.tail _ (.head _)))))) (xsc (.tail _ (.tail _ (.tail _ (.tail _ (.tail _ (.tail _ (.head _))))))) xsn)))))) (show ([3, 7, 0, 1, 2, 5, 6] : List Nat).Nodup from by decide) (k_f_Series_firstRow_86 O f d (f_Series_firstRow_22 O f n) ih v0 v1 v2 x4 v5 v6 M3)
            · skip
              exact xZ.sub (xsc (.tail _ (.head _)) (xsc (.tail _ (.tail _ (.head _))) (xsc (.tail _ (.tail _ (.tail _ (.head _)))) (xsc (.tail _ (.tail _ (.tail _ (.tail _ (.head _))))) (xsc (.tail _ (.tail _ (.tail _ (.tail _ (.tail _ (.head _)))))) (xsc (.tail _ (.tail _ (.tail _ (.tail _ (.tail _ (.tail _ (.head _))))))) xsn)))))) (show ([7, 0, 1, 2, 3, 5, 6] : List Nat).Nodup from by decide) (k_f_Series_firstRow_86 O f d (f_Series_firstRow_22 O f n) ih v0 v1 v2 v3 v5 v6 M2)
        · skip
          exact xZ.sub (xsc (.head _) (xsc (.tail _ (.head _)) (xsc (.tail _ (.tail _ (.head _))) (xsc (.tail _ (.tail _ (.tail _ (.head _)))) xsn)))) (show ([0, 1, 2, 3, 5, 6] : List Nat).Nodup from by decide) (k_f_Series_firstRow_105 O f d v0 v1 v2 v3 M)
def f_Series_firstRow (O : Nat → Option va_E) (f : Nat) (v0 : Nat) (v1 : Nat) (v2 : Int32) (M : xM) : Option (Int64 × xM) :=
  (gR O M v0 10 6).bind fun x1 =>
  (isO O M v0 10).bind fun _ =>
  xcl (f_Series_earliestDay O f v0 v1 v2 M) fun x2 M1 =>
  (isO O M1 x1 9).bind fun _ =>
  xcl (f_Rule_next O f x1 x2 M1) fun x3 M2 =>
  f_Series_firstRow_22 O f f v0 v1 v2 (-1 : Int64) x3 (0 : Int32) M2
set_option maxRecDepth 20000 in
theorem k_f_Series_firstRow (O : Nat → Option va_E) (f d : Nat) (v0 : Nat) (v1 : Nat) (v2 : Int32) (M : xM) : xZ oL O (d + 5) 121 0 [(0, .ref v0), (1, .ref v1), (2, .int v2)] [] M (f_Series_firstRow O f v0 v1 v2 M) := by
  unfold f_Series_firstRow
  refine xZ.adv (me := xm121) hP_121 3 (pc' := 5) (lv' := [(3, .long (-1 : Int64)), (0, .ref v0), (1, .ref v1), (2, .int v2)]) (st' := [.ref v0]) rfl ?_
  refine xZ.k_gR (me := xm121) hP_121 rfl (fun x1 => ?_)
  refine xZ.adv (me := xm121) hP_121 3 (pc' := 11) (lv' := [(3, .long (-1 : Int64)), (0, .ref v0), (1, .ref v1), (2, .int v2)]) (st' := [.int v2, .ref v1, .ref v0, .ref x1]) rfl ?_
  refine xZ.callv (κ := oI) (av := [.ref v1, .int v2]) (rest := [.ref x1]) (st' := fun x2 => [.int x2, .ref x1]) (k0 := v0) (me := xm121) hP_121 rfl (Or.inl rfl) ⟨rfl, by decide⟩ rfl rfl (Nat.le_of_ble_eq_true rfl) (by decide) hP_118 (Nat.le_of_ble_eq_true rfl) (fun _ => rfl) (k_f_Series_earliestDay O f (d + 4) v0 v1 v2 M) (fun x2 M1 => ?_)
  refine xZ.callv (κ := oI) (av := [.int x2]) (rest := []) (st' := fun x3 => [.int x3]) (k0 := x1) (me := xm121) hP_121 rfl (Or.inl rfl) ⟨rfl, by decide⟩ rfl rfl (Nat.le_of_ble_eq_true rfl) (by decide) hP_45 (Nat.le_of_ble_eq_true rfl) (fun _ => rfl) (k_f_Rule_next O f (d + 0) x1 x2 M1) (fun x3 M2 => ?_)
  refine xZ.adv (me := xm121) hP_121 3 (pc' := 22) (lv' := [(6, .int (0 : Int32)), (5, .int x3), (3, .long (-1 : Int64)), (0, .ref v0), (1, .ref v1), (2, .int v2)]) (st' := []) rfl ?_
  exact xZ.sub (xsc (.tail _ (.tail _ (.tail _ (.head _)))) (xsc (.tail _ (.tail _ (.tail _ (.tail _ (.head _))))) (xsc (.tail _ (.tail _ (.tail _ (.tail _ (.tail _ (.head _)))))) (xsc (.tail _ (.tail _ (.head _))) (xsc (.tail _ (.head _)) (xsc (.head _) xsn)))))) (show ([6, 5, 3, 0, 1, 2] : List Nat).Nodup from by decide) (k_f_Series_firstRow_22 O f d f v0 v1 v2 (-1 : Int64) x3 (0 : Int32) M2)
