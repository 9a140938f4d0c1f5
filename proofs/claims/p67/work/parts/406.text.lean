/-! ===== texts ===== -/
def f_Calendarhall_move (O : Nat → Option va_E) (f : Nat) (v0 : Nat) (v1 : Int32) (v2 : Int32) (v3 : Int32) (v4 : Int32) (M : xM) : Option (Int32 × xM) :=
  (isO O M v0 12).bind fun _ =>
  xcl (f_Calendarhall_seriesNumbered O f v0 v1 M) fun x1 M1 =>
  xcl (f_Calendarhall_needDay O f v3 M1) fun _ M2 =>
  xcl (f_Calendarhall_needRange O f v4 (0 : Int32) (1439 : Int32) M2) fun _ M3 =>
  (gR O M3 x1 10 6).bind fun x4 =>
  (isO O M3 x4 9).bind fun _ =>
  xcl (f_Rule_isDay O f x4 v2 M3) fun x5 M4 =>
  if x5 = 0 then (
    none
  ) else
  (isO O M4 x1 10).bind fun _ =>
  xcl (f_Series_hasPlaceFor O f x1 v2 M4) fun x6 M5 =>
  if x6 = 0 then (
    none
  ) else
  (isO O M5 v0 12).bind fun _ =>
  xcl (f_Calendarhall_saveForUndo O f v0 M5) fun _ M6 =>
  (isO O M6 x1 10).bind fun _ =>
  xcl (f_Series_except O f x1 v2 ((v3 * (1440 : Int32)) + v4) M6) fun _ M7 =>
  (gR O M7 v0 12 0).bind fun x9 =>
  (isO O M7 x9 4).bind fun _ =>
  xcl (f_Hall_zoneOf O f x9 x1 M7) fun x10 M8 =>
  (isO O M8 x10 11).bind fun _ =>
  xcl (f_Zone_commonOf O f x10 ((v3 * (1440 : Int32)) + v4) M8) fun x11 M9 =>
  some (x11, M9)
set_option maxRecDepth 20000 in
theorem k_f_Calendarhall_move (O : Nat → Option va_E) (f d : Nat) (v0 : Nat) (v1 : Int32) (v2 : Int32) (v3 : Int32) (v4 : Int32) (M : xM) : xZ oI O (d + 5) 112 0 [(0, .ref v0), (1, .int v1), (2, .int v2), (3, .int v3), (4, .int v4)] [] M (f_Calendarhall_move O f v0 v1 v2 v3 v4 M) := by
  unfold f_Calendarhall_move
  refine xZ.adv (me := xm112) hP_112 2 (pc' := 2) (lv' := [(0, .ref v0), (1, .int v1), (2, .int v2), (3, .int v3), (4, .int v4)]) (st' := [.int v1, .ref v0]) rfl ?_
  refine xZ.callv (κ := oR) (av := [.int v1]) (rest := []) (st' := fun x1 => [.ref x1]) (k0 := v0) (me := xm112) hP_112 rfl (Or.inl rfl) ⟨rfl, by decide⟩ rfl rfl (Nat.le_of_ble_eq_true rfl) (by decide) hP_79 (Nat.le_of_ble_eq_true rfl) (fun _ => rfl) (k_f_Calendarhall_seriesNumbered O f (d + 3) v0 v1 M) (fun x1 M1 => ?_)
  refine xZ.adv (me := xm112) hP_112 2 (pc' := 8) (lv' := [(5, .ref x1), (0, .ref v0), (1, .int v1), (2, .int v2), (3, .int v3), (4, .int v4)]) (st' := [.int v3]) rfl ?_
  refine xZ.calls (κ := oU) (av := [.int v3]) (rest := []) (st' := fun _ => []) (me := xm112) hP_112 rfl rfl rfl (Nat.le_of_ble_eq_true rfl) (by decide) hP_37 (Nat.le_of_ble_eq_true rfl) (fun _ => rfl) (k_f_Calendarhall_needDay O f (d + 4) v3 M1) (fun _ M2 => ?_)
  refine xZ.adv (me := xm112) hP_112 3 (pc' := 17) (lv' := [(5, .ref x1), (0, .ref v0), (1, .int v1), (2, .int v2), (3, .int v3), (4, .int v4)]) (st' := [.int (1439 : Int32), .int (0 : Int32), .int v4]) rfl ?_
  refine xZ.calls (κ := oU) (av := [.int v4, .int (0 : Int32), .int (1439 : Int32)]) (rest := []) (st' := fun _ => []) (me := xm112) hP_112 rfl rfl rfl (Nat.le_of_ble_eq_true rfl) (by decide) hP_22 (Nat.le_of_ble_eq_true rfl) (fun _ => rfl) (k_f_Calendarhall_needRange O f (d + 4) v4 (0 : Int32) (1439 : Int32) M2) (fun _ M3 => ?_)
  refine xZ.adv (me := xm112) hP_112 1 (pc' := 22) (lv' := [(5, .ref x1), (0, .ref v0), (1, .int v1), (2, .int v2), (3, .int v3), (4, .int v4)]) (st' := [.ref x1]) rfl ?_
  refine xZ.k_gR (me := xm112) hP_112 rfl (fun x4 => ?_)
  refine xZ.adv (me := xm112) hP_112 1 (pc' := 26) (lv' := [(5, .ref x1), (0, .ref v0), (1, .int v1), (2, .int v2), (3, .int v3), (4, .int v4)]) (st' := [.int v2, .ref x4]) rfl ?_
  refine xZ.callv (κ := oI) (av := [.int v2]) (rest := []) (st' := fun x5 => [.int x5]) (k0 := x4) (me := xm112) hP_112 rfl (Or.inl rfl) ⟨rfl, by decide⟩ rfl rfl (Nat.le_of_ble_eq_true rfl) (by decide) hP_99 (Nat.le_of_ble_eq_true rfl) (fun _ => rfl) (k_f_Rule_isDay O f (d + 1) x4 v2 M3) (fun x5 M4 => ?_)
  refine xZ.if_ne (me := xm112) hP_112 rfl (fun h1 => ?_) (fun h1 => ?_)
  · skip
    exact xZ.no
  · skip
    refine xZ.adv (me := xm112) hP_112 2 (pc' := 43) (lv' := [(5, .ref x1), (0, .ref v0), (1, .int v1), (2, .int v2), (3, .int v3), (4, .int v4)]) (st' := [.int v2, .ref x1]) rfl ?_
    refine xZ.callv (κ := oI) (av := [.int v2]) (rest := []) (st' := fun x6 => [.int x6]) (k0 := x1) (me := xm112) hP_112 rfl (Or.inl rfl) ⟨rfl, by decide⟩ rfl rfl (Nat.le_of_ble_eq_true rfl) (by decide) hP_110 (Nat.le_of_ble_eq_true rfl) (fun _ => rfl) (k_f_Series_hasPlaceFor O f (d + 3) x1 v2 M4) (fun x6 M5 => ?_)
    refine xZ.if_ne (me := xm112) hP_112 rfl (fun h2 => ?_) (fun h2 => ?_)
    · skip
      exact xZ.no
    · skip
      refine xZ.adv (me := xm112) hP_112 1 (pc' := 58) (lv' := [(5, .ref x1), (0, .ref v0), (1, .int v1), (2, .int v2), (3, .int v3), (4, .int v4)]) (st' := [.ref v0]) rfl ?_
      refine xZ.callv (κ := oU) (av := []) (rest := []) (st' := fun _ => []) (k0 := v0) (me := xm112) hP_112 rfl (Or.inl rfl) ⟨rfl, by decide⟩ rfl rfl (Nat.le_of_ble_eq_true rfl) (by decide) hP_23 (Nat.le_of_ble_eq_true rfl) (fun _ => rfl) (k_f_Calendarhall_saveForUndo O f (d + 0) v0 M5) (fun _ M6 => ?_)
      refine xZ.adv (me := xm112) hP_112 9 (pc' := 76) (lv' := [(6, .int ((v3 * (1440 : Int32)) + v4)), (5, .ref x1), (0, .ref v0), (1, .int v1), (2, .int v2), (3, .int v3), (4, .int v4)]) (st' := [.int ((v3 * (1440 : Int32)) + v4), .int v2, .ref x1]) rfl ?_
      refine xZ.callv (κ := oU) (av := [.int v2, .int ((v3 * (1440 : Int32)) + v4)]) (rest := []) (st' := fun _ => []) (k0 := x1) (me := xm112) hP_112 rfl (Or.inl rfl) ⟨rfl, by decide⟩ rfl rfl (Nat.le_of_ble_eq_true rfl) (by decide) hP_111 (Nat.le_of_ble_eq_true rfl) (fun _ => rfl) (k_f_Series_except O f (d + 3) x1 v2 ((v3 * (1440 : Int32)) + v4) M6) (fun _ M7 => ?_)
      refine xZ.adv (me := xm112) hP_112 1 (pc' := 80) (lv' := [(6, .int ((v3 * (1440 : Int32)) + v4)), (5, .ref x1), (0, .ref v0), (1, .int v1), (2, .int v2), (3, .int v3), (4, .int v4)]) (st' := [.ref v0]) rfl ?_
      refine xZ.k_gR (me := xm112) hP_112 rfl (fun x9 => ?_)
      refine xZ.adv (me := xm112) hP_112 1 (pc' := 85) (lv' := [(6, .int ((v3 * (1440 : Int32)) + v4)), (5, .ref x1), (0, .ref v0), (1, .int v1), (2, .int v2), (3, .int v3), (4, .int v4)]) (st' := [.ref x1, .ref x9]) rfl ?_
      refine xZ.callv (κ := oR) (av := [.ref x1]) (rest := []) (st' := fun x10 => [.ref x10]) (k0 := x9) (me := xm112) hP_112 rfl (Or.inl rfl) ⟨rfl, by decide⟩ rfl rfl (Nat.le_of_ble_eq_true rfl) (by decide) hP_102 (Nat.le_of_ble_eq_true rfl) (fun _ => rfl) (k_f_Hall_zoneOf O f (d + 3) x9 x1 M7) (fun x10 M8 => ?_)
      refine xZ.adv (me := xm112) hP_112 1 (pc' := 90) (lv' := [(6, .int ((v3 * (1440 : Int32)) + v4)), (5, .ref x1), (0, .ref v0), (1, .int v1), (2, .int v2), (3, .int v3), (4, .int v4)]) (st' := [.int ((v3 * (1440 : Int32)) + v4), .ref x10]) rfl ?_
      refine xZ.callv (κ := oI) (av := [.int ((v3 * (1440 : Int32)) + v4)]) (rest := []) (st' := fun x11 => [.int x11]) (k0 := x10) (me := xm112) hP_112 rfl (Or.inl rfl) ⟨rfl, by decide⟩ rfl rfl (Nat.le_of_ble_eq_true rfl) (by decide) hP_105 (Nat.le_of_ble_eq_true rfl) (fun _ => rfl) (k_f_Zone_commonOf O f (d + 1) x10 ((v3 * (1440 : Int32)) + v4) M8) (fun x11 M9 => ?_)
      exact xZ.reti (me := xm112) hP_112 rfl rfl
def f_Calendarhall_needMinute (O : Nat → Option va_E) (f : Nat) (v0 : Int32) (M : xM) : Option (Unit × xM) :=
  if v0 < (14400 : Int32) then (
    none
  ) else
  if v0 ≤ (210240000 : Int32) then (
    some ((), M)
  ) else
  none
set_option maxRecDepth 20000 in
theorem k_f_Calendarhall_needMinute (O : Nat → Option va_E) (f d : Nat) (v0 : Int32) (M : xM) : xZ oU O (d + 0) 115 0 [(0, .int v0)] [] M (f_Calendarhall_needMinute O f v0 M) := by
  unfold f_Calendarhall_needMinute
  refine xZ.adv (me := xm115) hP_115 2 (pc' := 4) (lv' := [(0, .int v0)]) (st' := [.int (14400 : Int32), .int v0]) rfl ?_
  refine xZ.ic_lt (me := xm115) hP_115 rfl (fun h1 => ?_) (fun h1 => ?_)
  · skip
    exact xZ.no
  · skip
    refine xZ.adv (me := xm115) hP_115 2 (pc' := 11) (lv' := [(0, .int v0)]) (st' := [.int (210240000 : Int32), .int v0]) rfl ?_
    refine xZ.ic_le (me := xm115) hP_115 rfl (fun h2 => ?_) (fun h2 => ?_)
    · skip
      exact xZ.retu (me := xm115) hP_115 rfl rfl
    · skip
      exact xZ.no
def f_Calendarhall_needPiece (O : Nat → Option va_E) (f : Nat) (v0 : Int32) (v1 : Int32) (v2 : Int32) (M : xM) : Option (Unit × xM) :=
  xcl (f_Calendarhall_needMinute O f v0 M) fun _ M1 =>
  xcl (f_Calendarhall_needMinute O f v1 M1) fun _ M2 =>
  if v1 ≤ v0 then (
    none
  ) else
  if (v1 - v0) ≤ v2 then (
    some ((), M2)
  ) else
  none
set_option maxRecDepth 20000 in
theorem k_f_Calendarhall_needPiece (O : Nat → Option va_E) (f d : Nat) (v0 : Int32) (v1 : Int32) (v2 : Int32) (M : xM) : xZ oU O (d + 1) 114 0 [(0, .int v0), (1, .int v1), (2, .int v2)] [] M (f_Calendarhall_needPiece O f v0 v1 v2 M) := by
  unfold f_Calendarhall_needPiece
  refine xZ.adv (me := xm114) hP_114 1 (pc' := 1) (lv' := [(0, .int v0), (1, .int v1), (2, .int v2)]) (st' := [.int v0]) rfl ?_
  refine xZ.calls (κ := oU) (av := [.int v0]) (rest := []) (st' := fun _ => []) (me := xm114) hP_114 rfl rfl rfl (Nat.le_of_ble_eq_true rfl) (by decide) hP_115 (Nat.le_of_ble_eq_true rfl) (fun _ => rfl) (k_f_Calendarhall_needMinute O f (d + 0) v0 M) (fun _ M1 => ?_)
  refine xZ.adv (me := xm114) hP_114 1 (pc' := 5) (lv' := [(0, .int v0), (1, .int v1), (2, .int v2)]) (st' := [.int v1]) rfl ?_
  refine xZ.calls (κ := oU) (av := [.int v1]) (rest := []) (st' := fun _ => []) (me := xm114) hP_114 rfl rfl rfl (Nat.le_of_ble_eq_true rfl) (by decide) hP_115 (Nat.le_of_ble_eq_true rfl) (fun _ => rfl) (k_f_Calendarhall_needMinute O f (d + 0) v1 M1) (fun _ M2 => ?_)
  refine xZ.adv (me := xm114) hP_114 2 (pc' := 10) (lv' := [(0, .int v0), (1, .int v1), (2, .int v2)]) (st' := [.int v0, .int v1]) rfl ?_
  refine xZ.ic_le (me := xm114) hP_114 rfl (fun h1 => ?_) (fun h1 => ?_)
  · skip
    exact xZ.no
  · skip
    refine xZ.adv (me := xm114) hP_114 4 (pc' := 17) (lv' := [(0, .int v0), (1, .int v1), (2, .int v2)]) (st' := [.int v2, .int (v1 - v0)]) rfl ?_
    refine xZ.ic_le (me := xm114) hP_114 rfl (fun h2 => ?_) (fun h2 => ?_)
    · skip
      exact xZ.retu (me := xm114) hP_114 rfl rfl
    · skip
      exact xZ.no
def f_Series_earliestDay (O : Nat → Option va_E) (f : Nat) (v0 : Nat) (v1 : Nat) (v2 : Int32) (M : xM) : Option (Int32 × xM) :=
  (gI O M v1 11 0).bind fun x1 =>
  (gI O M v0 10 2).bind fun x2 =>
  some ((((v2 + x1) - x2) / (1440 : Int32)), M)
set_option maxRecDepth 20000 in
theorem k_f_Series_earliestDay (O : Nat → Option va_E) (f d : Nat) (v0 : Nat) (v1 : Nat) (v2 : Int32) (M : xM) : xZ oI O (d + 0) 118 0 [(0, .ref v0), (1, .ref v1), (2, .int v2)] [] M (f_Series_earliestDay O f v0 v1 v2 M) := by
  unfold f_Series_earliestDay
  refine xZ.adv (me := xm118) hP_118 2 (pc' := 2) (lv' := [(0, .ref v0), (1, .ref v1), (2, .int v2)]) (st' := [.ref v1, .int v2]) rfl ?_
  refine xZ.k_gI (me := xm118) hP_118 rfl (fun x1 => ?_)
  refine xZ.adv (me := xm118) hP_118 2 (pc' := 7) (lv' := [(0, .ref v0), (1, .ref v1), (2, .int v2)]) (st' := [.ref v0, .int (v2 + x1)]) rfl ?_
  refine xZ.k_gI (me := xm118) hP_118 rfl (fun x2 => ?_)
  refine xZ.adv (me := xm118) hP_118 3 (pc' := 15) (lv' := [(0, .ref v0), (1, .ref v1), (2, .int v2)]) (st' := [.int (((v2 + x1) - x2) / (1440 : Int32))]) rfl ?_
  exact xZ.reti (me := xm118) hP_118 rfl rfl
def f_Series_firstDayFrom_10 (O : Nat → Option va_E) (f : Nat) : Nat → Nat → Nat → Int32 → Int32 → Int32 → xM → Option (Int32 × xM)
  | 0, _, _, _, _, _, _ => none
  | n + 1, v0, v1, v2, v3, v4, M =>
    if (2 : Int32) ≤ v4 then (
      some (v3, M)
    ) else
    (gI O M v0 10 2).bind fun x1 =>
    (isO O M v1 11).bind fun _ =>
    xcl (f_Zone_commonOf O f v1 ((v3 * (1440 : Int32)) + x1) M) fun x2 M1 =>
    if v2 ≤ x2 then (
      some (v3, M1)
    ) else
    f_Series_firstDayFrom_10 O f n v0 v1 v2 (v3 + (1 : Int32)) (v4 + (1 : Int32)) M1
set_option maxRecDepth 20000 in
theorem k_f_Series_firstDayFrom_10 (O : Nat → Option va_E) (f d : Nat) : ∀ (n : Nat) (v0 : Nat) (v1 : Nat) (v2 : Int32) (v3 : Int32) (v4 : Int32) (M : xM), xZ oI O (d + 4) 117 10 [(0, .ref v0), (1, .ref v1), (2, .int v2), (3, .int v3), (4, .int v4)] [] M (f_Series_firstDayFrom_10 O f n v0 v1 v2 v3 v4 M) := by
  intro n
  induction n with
  | zero =>
    intro v0 v1 v2 v3 v4 M
    exact xZ.no
  | succ n ih =>
    intro v0 v1 v2 v3 v4 M
    unfold f_Series_firstDayFrom_10
    refine xZ.adv (me := xm117) hP_117 2 (pc' := 13) (lv' := [(0, .ref v0), (1, .ref v1), (2, .int v2), (3, .int v3), (4, .int v4)]) (st' := [.int (2 : Int32), .int v4]) rfl ?_
    refine xZ.ic_ge (me := xm117) hP_117 rfl (fun h1 => ?_) (fun h1 => ?_)
    · skip
      refine xZ.adv (me := xm117) hP_117 1 (pc' := 44) (lv' := [(0, .ref v0), (1, .ref v1), (2, .int v2), (3, .int v3), (4, .int v4)]) (st' := [.int v3]) rfl ?_
      exact xZ.reti (me := xm117) hP_117 rfl rfl
    · skip
      refine xZ.adv (me := xm117) hP_117 5 (pc' := 23) (lv' := [(0, .ref v0), (1, .ref v1), (2, .int v2), (3, .int v3), (4, .int v4)]) (st' := [.ref v0, .int (v3 * (1440 : Int32)), .ref v1]) rfl ?_
      refine xZ.k_gI (me := xm117) hP_117 rfl (fun x1 => ?_)
      refine xZ.adv (me := xm117) hP_117 1 (pc' := 27) (lv' := [(0, .ref v0), (1, .ref v1), (2, .int v2), (3, .int v3), (4, .int v4)]) (st' := [.int ((v3 * (1440 : Int32)) + x1), .ref v1]) rfl ?_
      refine xZ.callv (κ := oI) (av := [.int ((v3 * (1440 : Int32)) + x1)]) (rest := []) (st' := fun x2 => [.int x2]) (k0 := v1) (me := xm117) hP_117 rfl (Or.inl rfl) ⟨rfl, by decide⟩ rfl rfl (Nat.le_of_ble_eq_true rfl) (by decide) hP_105 (Nat.le_of_ble_eq_true rfl) (fun _ => rfl) (k_f_Zone_commonOf O f (d + 0) v1 ((v3 * (1440 : Int32)) + x1) M) (fun x2 M1 => ?_)
      refine xZ.adv (me := xm117) hP_117 1 (pc' := 31) (lv' := [(0, .ref v0), (1, .ref v1), (2, .int v2), (3, .int v3), (4, .int v4)]) (st' := [.int v2, .int x2]) rfl ?_
      refine xZ.ic_ge (me := xm117) hP_117 rfl (fun h2 => ?_) (fun h2 => ?_)
      · skip
        refine xZ.adv (me := xm117) hP_117 1 (pc' := 44) (lv' := [(0, .ref v0), (1, .ref v1), (2, .int v2), (3, .int v3), (4, .int v4)]) (st' := [.int v3]) rfl ?_
        exact xZ.reti (me := xm117) hP_117 rfl rfl
      · skip
        refine xZ.adv (me := xm117) hP_117 3 (pc' := 10) (lv' := [(4, .int (v4 + (1 : Int32))), (3, .int (v3 + (1 : Int32))), (0, .ref v0), (1, .ref v1), (2, .int v2)]) (st' := []) rfl ?_
        exact xZ.sub (xsc (.tail _ (.tail _ (.head _))) (xsc (.tail _ (.tail _ (.tail _ (.head _)))) (xsc (.tail _ (.tail _ (.tail _ (.tail _ (.head _))))) (xsc (.tail _ (.head _)) (xsc (.head _) xsn))))) (show ([4, 3, 0, 1, 2] : List Nat).Nodup from by decide) (ih v0 v1 v2 (v3 + (1 : Int32)) (v4 + (1 : Int32)) M1)
def f_Series_firstDayFrom (O : Nat → Option va_E) (f : Nat) (v0 : Nat) (v1 : Nat) (v2 : Int32) (M : xM) : Option (Int32 × xM) :=
  (isO O M v0 10).bind fun _ =>
  xcl (f_Series_earliestDay O f v0 v1 v2 M) fun x1 M1 =>
  f_Series_firstDayFrom_10 O f f v0 v1 v2 x1 (0 : Int32) M1
set_option maxRecDepth 20000 in
theorem k_f_Series_firstDayFrom (O : Nat → Option va_E) (f d : Nat) (v0 : Nat) (v1 : Nat) (v2 : Int32) (M : xM) : xZ oI O (d + 4) 117 0 [(0, .ref v0), (1, .ref v1), (2, .int v2)] [] M (f_Series_firstDayFrom O f v0 v1 v2 M) := by
  unfold f_Series_firstDayFrom
  refine xZ.adv (me := xm117) hP_117 3 (pc' := 3) (lv' := [(0, .ref v0), (1, .ref v1), (2, .int v2)]) (st' := [.int v2, .ref v1, .ref v0]) rfl ?_
  refine xZ.callv (κ := oI) (av := [.ref v1, .int v2]) (rest := []) (st' := fun x1 => [.int x1]) (k0 := v0) (me := xm117) hP_117 rfl (Or.inl rfl) ⟨rfl, by decide⟩ rfl rfl (Nat.le_of_ble_eq_true rfl) (by decide) hP_118 (Nat.le_of_ble_eq_true rfl) (fun _ => rfl) (k_f_Series_earliestDay O f (d + 3) v0 v1 v2 M) (fun x1 M1 => ?_)
  refine xZ.adv (me := xm117) hP_117 3 (pc' := 10) (lv' := [(4, .int (0 : Int32)), (3, .int x1), (0, .ref v0), (1, .ref v1), (2, .int v2)]) (st' := []) rfl ?_
  exact xZ.sub (xsc (.tail _ (.tail _ (.head _))) (xsc (.tail _ (.tail _ (.tail _ (.head _)))) (xsc (.tail _ (.tail _ (.tail _ (.tail _ (.head _))))) (xsc (.tail _ (.head _)) (xsc (.head _) xsn))))) (show ([4, 3, 0, 1, 2] : List Nat).Nodup from by decide) (k_f_Series_firstDayFrom_10 O f d f v0 v1 v2 x1 (0 : Int32) M1)
def f_Series_exceptionDay (O : Nat → Option va_E) (f : Nat) (v0 : Nat) (v1 : Int32) (M : xM) : Option (Int32 × xM) :=
  if v1 < 0 then (
    some ((-1 : Int32), M)
  ) else
  (gR O M v0 10 8).bind fun x1 =>
  (aN O M x1).bind fun x2 =>
  if x2 ≤ v1 then (
    some ((-1 : Int32), M)
  ) else
  (gR O M v0 10 8).bind fun x3 =>
  (aI O M x3 v1).bind fun x4 =>
  some (x4, M)
set_option maxRecDepth 20000 in
theorem k_f_Series_exceptionDay (O : Nat → Option va_E) (f d : Nat) (v0 : Nat) (v1 : Int32) (M : xM) : xZ oI O (d + 0) 119 0 [(0, .ref v0), (1, .int v1)] [] M (f_Series_exceptionDay O f v0 v1 M) := by
  unfold f_Series_exceptionDay
  refine xZ.adv (me := xm119) hP_119 1 (pc' := 1) (lv' := [(0, .ref v0), (1, .int v1)]) (st' := [.int v1]) rfl ?_
  refine xZ.if_lt (me := xm119) hP_119 rfl (fun h1 => ?_) (fun h1 => ?_)
  · skip
    refine xZ.adv (me := xm119) hP_119 1 (pc' := 23) (lv' := [(0, .ref v0), (1, .int v1)]) (st' := [.int (-1 : Int32)]) rfl ?_
    exact xZ.reti (me := xm119) hP_119 rfl rfl
  · skip
    refine xZ.adv (me := xm119) hP_119 2 (pc' := 6) (lv' := [(0, .ref v0), (1, .int v1)]) (st' := [.ref v0, .int v1]) rfl ?_
    refine xZ.k_gR (me := xm119) hP_119 rfl (fun x1 => ?_)
    refine xZ.k_aN (me := xm119) hP_119 rfl (fun x2 => ?_)
    refine xZ.ic_ge (me := xm119) hP_119 rfl (fun h2 => ?_) (fun h2 => ?_)
    · skip
      refine xZ.adv (me := xm119) hP_119 1 (pc' := 23) (lv' := [(0, .ref v0), (1, .int v1)]) (st' := [.int (-1 : Int32)]) rfl ?_
      exact xZ.reti (me := xm119) hP_119 rfl rfl
    · skip
      refine xZ.adv (me := xm119) hP_119 1 (pc' := 14) (lv' := [(0, .ref v0), (1, .int v1)]) (st' := [.ref v0]) rfl ?_
      refine xZ.k_gR (me := xm119) hP_119 rfl (fun x3 => ?_)
      refine xZ.adv (me := xm119) hP_119 1 (pc' := 18) (lv' := [(0, .ref v0), (1, .int v1)]) (st' := [.int v1, .ref x3]) rfl ?_
      refine xZ.k_aI (me := xm119) hP_119 rfl (fun x4 => ?_)
      refine xZ.adv (me := xm119) hP_119 1 (pc' := 23) (lv' := [(0, .ref v0), (1, .int v1)]) (st' := [.int x4]) rfl ?_
      exact xZ.reti (me := xm119) hP_119 rfl rfl
def f_Series_countBegins_68 (O : Nat → Option va_E) (f : Nat) (K34 : Nat → Nat → Int32 → Int32 → Int32 → Int32 → Int32 → Int32 → xM → Option (Int32 × xM)) (v0 : Nat) (v1 : Nat) (v2 : Int32) (v3 : Int32) (v4 : Int32) (v5 : Int32) (v6 : Int32) (v7 : Int32) (M : xM) : Option (Int32 × xM) :=
  (isO O M v0 10).bind fun _ =>
  xcl (f_Series_exceptionTo O f v0 v7 M) fun x1 M1 =>
  if x1 = (-1 : Int32) then (
    K34 v0 v1 v2 v3 v4 v5 v6 (v7 + (1 : Int32)) M1
  ) else
  (isO O M1 v0 10).bind fun _ =>
  xcl (f_Series_exceptionTo O f v0 v7 M1) fun x2 M2 =>
  (isO O M2 v1 11).bind fun _ =>
  xcl (f_Zone_commonOf O f v1 x2 M2) fun x3 M3 =>
  if x3 < v2 then (
    K34 v0 v1 v2 v3 v4 v5 v6 (v7 + (1 : Int32)) M3
  ) else
  if v3 ≤ x3 then (
    K34 v0 v1 v2 v3 v4 v5 v6 (v7 + (1 : Int32)) M3
  ) else
  K34 v0 v1 v2 v3 v4 v5 (v6 + (1 : Int32)) (v7 + (1 : Int32)) M3
set_option maxRecDepth 20000 in
theorem k_f_Series_countBegins_68 (O : Nat → Option va_E) (f d : Nat) (K34 : Nat → Nat → Int32 → Int32 → Int32 → Int32 → Int32 → Int32 → xM → Option (Int32 × xM)) (hK34 : ∀ (v0 : Nat) (v1 : Nat) (v2 : Int32) (v3 : Int32) (v4 : Int32) (v5 : Int32) (v6 : Int32) (v7 : Int32) M, xZ oI O (d + 5) 116 34 [(0, .ref v0), (1, .ref v1), (2, .int v2), (3, .int v3), (4, .int v4), (5, .int v5), (6, .int v6), (7, .int v7)] [] M (K34 v0 v1 v2 v3 v4 v5 v6 v7 M)) (v0 : Nat) (v1 : Nat) (v2 : Int32) (v3 : Int32) (v4 : Int32) (v5 : Int32) (v6 : Int32) (v7 : Int32) (M : xM) : xZ oI O (d + 5) 116 68 [(0, .ref v0), (1, .ref v1), (2, .int v2), (3, .int v3), (4, .int v4), (5, .int v5), (6, .int v6), (7, .int v7)] [] M (f_Series_countBegins_68 O f K34 v0 v1 v2 v3 v4 v5 v6 v7 M) := by
  unfold f_Series_countBegins_68
  refine xZ.adv (me := xm116) hP_116 2 (pc' := 71) (lv' := [(0, .ref v0), (1, .ref v1), (2, .int v2), (3, .int v3), (4, .int v4), (5, .int v5), (6, .int v6), (7, .int v7)]) (st' := [.int v7, .ref v0]) rfl ?_
  refine xZ.callv (κ := oI) (av := [.int v7]) (rest := []) (st' := fun x1 => [.int x1]) (k0 := v0) (me := xm116) hP_116 rfl (Or.inl rfl) ⟨rfl, by decide⟩ rfl rfl (Nat.le_of_ble_eq_true rfl) (by decide) hP_108 (Nat.le_of_ble_eq_true rfl) (fun _ => rfl) (k_f_Series_exceptionTo O f (d + 4) v0 v7 M) (fun x1 M1 => ?_)
  refine xZ.adv (me := xm116) hP_116 1 (pc' := 75) (lv' := [(0, .ref v0), (1, .ref v1), (2, .int v2), (3, .int v3), (4, .int v4), (5, .int v5), (6, .int v6), (7, .int v7)]) (st' := [.int (-1 : Int32), .int x1]) rfl ?_
  refine xZ.ic_ne (me := xm116) hP_116 rfl (fun h1 => ?_) (fun h1 => ?_)
  · skip
    refine xZ.adv (me := xm116) hP_116 3 (pc' := 34) (lv' := [(7, .int (v7 + (1 : Int32))), (0, .ref v0), (1, .ref v1), (2, .int v2), (3, .int v3), (4, .int v4), (5, .int v5), (6, .int v6)]) (st' := []) rfl ?_
    exact xZ.sub (xsc (.tail _ (.head _)) (xsc (.tail _ (.tail _ (.head _))) (xsc (.tail _ (.tail _ (.tail _ (.head _)))) (xsc (.tail _ (.tail _ (.tail _ (.tail _ (.head _))))) (xsc (.tail _ (.tail _ (.tail _ (.tail _ (.tail _ (.head _)))))) (xsc (.tail _ (.tail _ (.tail _ (.tail _ (.tail _ (.tail _ (.head _))))))) (xsc (.tail _ (.tail _ (.tail _ (.tail _ (.tail _ (.tail _ (.tail _ (.head _)))))))) (xsc (.head _) xsn)))))))) (show ([7, 0, 1, 2, 3, 4, 5, 6] : List Nat).Nodup from by decide) (hK34 v0 v1 v2 v3 v4 v5 v6 (v7 + (1 : Int32)) M1)
  · skip
    refine xZ.adv (me := xm116) hP_116 3 (pc' := 85) (lv' := [(0, .ref v0), (1, .ref v1), (2, .int v2), (3, .int v3), (4, .int v4), (5, .int v5), (6, .int v6), (7, .int v7)]) (st' := [.int v7, .ref v0, .ref v1]) rfl ?_
    refine xZ.callv (κ := oI) (av := [.int v7]) (rest := [.ref v1]) (st' := fun x2 => [.int x2, .ref v1]) (k0 := v0) (me := xm116) hP_116 rfl (Or.inl rfl) ⟨rfl, by decide⟩ rfl rfl (Nat.le_of_ble_eq_true rfl) (by decide) hP_108 (Nat.le_of_ble_eq_true rfl) (fun _ => rfl) (k_f_Series_exceptionTo O f (d + 4) v0 v7 M1) (fun x2 M2 => ?_)
    refine xZ.callv (κ := oI) (av := [.int x2]) (rest := []) (st' := fun x3 => [.int x3]) (k0 := v1) (me := xm116) hP_116 rfl (Or.inl rfl) ⟨rfl, by decide⟩ rfl rfl (Nat.le_of_ble_eq_true rfl) (by decide) hP_105 (Nat.le_of_ble_eq_true rfl) (fun _ => rfl) (k_f_Zone_commonOf O f (d + 1) v1 x2 M2) (fun x3 M3 => ?_)
    refine xZ.adv (me := xm116) hP_116 3 (pc' := 96) (lv' := [(8, .int x3), (0, .ref v0), (1, .ref v1), (2, .int v2), (3, .int v3), (4, .int v4), (5, .int v5), (6, .int v6), (7, .int v7)]) (st' := [.int v2, .int x3]) rfl ?_
    refine xZ.ic_lt (me := xm116) hP_116 rfl (fun h2 => ?_) (fun h2 => ?_)
    · skip
      refine xZ.adv (me := xm116) hP_116 2 (pc' := 34) (lv' := [(7, .int (v7 + (1 : Int32))), (8, .int x3), (0, .ref v0), (1, .ref v1), (2, .int v2), (3, .int v3), (4, .int v4), (5, .int v5), (6, .int v6)]) (st' := []) rfl ?_
      exact xZ.sub (xsc (.tail _ (.tail _ (.head _))) (xsc (.tail _ (.tail _ (.tail _ (.head _)))) (xsc (.tail _ (.tail _ (.tail _ (.tail _ (.head _))))) (xsc (.tail _ (.tail _ (.tail _ (.tail _ (.tail _ (.head _)))))) (xsc (.tail _ (.tail _ (.tail _ (.tail _ (.tail _ (.tail _ (.head _))))))) (xsc (.tail _ (.tail _ (.tail _ (.tail _ (.tail _ (.tail _ (.tail _ (.head _)))))))) (xsc (.tail _ (.tail _ (.tail _ (.tail _ (.tail _ (.tail _ (.tail _ (.tail _ (.head _))))))))) (xsc (.head _) xsn)))))))) (show ([7, 8, 0, 1, 2, 3, 4, 5, 6] : List Nat).Nodup from by decide) (hK34 v0 v1 v2 v3 v4 v5 v6 (v7 + (1 : Int32)) M3)
    · skip
      refine xZ.adv (me := xm116) hP_116 2 (pc' := 102) (lv' := [(8, .int x3), (0, .ref v0), (1, .ref v1), (2, .int v2), (3, .int v3), (4, .int v4), (5, .int v5), (6, .int v6), (7, .int v7)]) (st' := [.int v3, .int x3]) rfl ?_
      refine xZ.ic_ge (me := xm116) hP_116 rfl (fun h3 => ?_) (fun h3 => ?_)
      · skip
        refine xZ.adv (me := xm116) hP_116 2 (pc' := 34) (lv' := [(7, .int (v7 + (1 : Int32))), (8, .int x3), (0, .ref v0), (1, .ref v1), (2, .int v2), (3, .int v3), (4, .int v4), (5, .int v5), (6, .int v6)]) (st' := []) rfl ?_
        exact xZ.sub (xsc (.tail _ (.tail _ (.head _))) (xsc (.tail _ (.tail _ (.tail _ (.head _)))) (xsc (.tail _ (.tail _ (.tail _ (.tail _ (.head _))))) (xsc (.tail _ (.tail _ (.tail _ (.tail _ (.tail _ (.head _)))))) (xsc (.tail _ (.tail _ (.tail _ (.tail _ (.tail _ (.tail _ (.head _))))))) (xsc (.tail _ (.tail _ (.tail _ (.tail _ (.tail _ (.tail _ (.tail _ (.head _)))))))) (xsc (.tail _ (.tail _ (.tail _ (.tail _ (.tail _ (.tail _ (.tail _ (.tail _ (.head _))))))))) (xsc (.head _) xsn)))))))) (show ([7, 8, 0, 1, 2, 3, 4, 5, 6] : List Nat).Nodup from by decide) (hK34 v0 v1 v2 v3 v4 v5 v6 (v7 + (1 : Int32)) M3)
      · skip
        refine xZ.adv (me := xm116) hP_116 3 (pc' := 34) (lv' := [(7, .int (v7 + (1 : Int32))), (6, .int (v6 + (1 : Int32))), (8, .int x3), (0, .ref v0), (1, .ref v1), (2, .int v2), (3, .int v3), (4, .int v4), (5, .int v5)]) (st' := []) rfl ?_
        exact xZ.sub (xsc (.tail _ (.tail _ (.tail _ (.head _)))) (xsc (.tail _ (.tail _ (.tail _ (.tail _ (.head _))))) (xsc (.tail _ (.tail _ (.tail _ (.tail _ (.tail _ (.head _)))))) (xsc (.tail _ (.tail _ (.tail _ (.tail _ (.tail _ (.tail _ (.head _))))))) (xsc (.tail _ (.tail _ (.tail _ (.tail _ (.tail _ (.tail _ (.tail _ (.head _)))))))) (xsc (.tail _ (.tail _ (.tail _ (.tail _ (.tail _ (.tail _ (.tail _ (.tail _ (.head _))))))))) (xsc (.tail _ (.head _)) (xsc (.head _) xsn)))))))) (show ([7, 6, 8, 0, 1, 2, 3, 4, 5] : List Nat).Nodup from by decide) (hK34 v0 v1 v2 v3 v4 v5 (v6 + (1 : Int32)) (v7 + (1 : Int32)) M3)
def f_Series_countBegins_34 (O : Nat → Option va_E) (f : Nat) : Nat → Nat → Nat → Int32 → Int32 → Int32 → Int32 → Int32 → Int32 → xM → Option (Int32 × xM)
  | 0, _, _, _, _, _, _, _, _, _ => none
  | n + 1, v0, v1, v2, v3, v4, v5, v6, v7, M =>
    (gI O M v0 10 7).bind fun x1 =>
    if x1 ≤ v7 then (
      some (v6, M)
    ) else
    (isO O M v0 10).bind fun _ =>
    xcl (f_Series_exceptionDay O f v0 v7 M) fun x2 M1 =>
    if x2 < v4 then (
      f_Series_countBegins_68 O f (f_Series_countBegins_34 O f n) v0 v1 v2 v3 v4 v5 v6 v7 M1
    ) else
    (isO O M1 v0 10).bind fun _ =>
    xcl (f_Series_exceptionDay O f v0 v7 M1) fun x3 M2 =>
    if v5 < x3 then (
      f_Series_countBegins_68 O f (f_Series_countBegins_34 O f n) v0 v1 v2 v3 v4 v5 v6 v7 M2
    ) else
    f_Series_countBegins_68 O f (f_Series_countBegins_34 O f n) v0 v1 v2 v3 v4 v5 (v6 + (-1 : Int32)) v7 M2
set_option maxRecDepth 20000 in
theorem k_f_Series_countBegins_34 (O : Nat → Option va_E) (f d : Nat) : ∀ (n : Nat) (v0 : Nat) (v1 : Nat) (v2 : Int32) (v3 : Int32) (v4 : Int32) (v5 : Int32) (v6 : Int32) (v7 : Int32) (M : xM), xZ oI O (d + 5) 116 34 [(0, .ref v0), (1, .ref v1), (2, .int v2), (3, .int v3), (4, .int v4), (5, .int v5), (6, .int v6), (7, .int v7)] [] M (f_Series_countBegins_34 O f n v0 v1 v2 v3 v4 v5 v6 v7 M) := by
  intro n
  induction n with
  | zero =>
    intro v0 v1 v2 v3 v4 v5 v6 v7 M
    exact xZ.no
  | succ n ih =>
    intro v0 v1 v2 v3 v4 v5 v6 v7 M
    unfold f_Series_countBegins_34
    refine xZ.adv (me := xm116) hP_116 2 (pc' := 37) (lv' := [(0, .ref v0), (1, .ref v1), (2, .int v2), (3, .int v3), (4, .int v4), (5, .int v5), (6, .int v6), (7, .int v7)]) (st' := [.ref v0, .int v7]) rfl ?_
    refine xZ.k_gI (me := xm116) hP_116 rfl (fun x1 => ?_)
    refine xZ.ic_ge (me := xm116) hP_116 rfl (fun h1 => ?_) (fun h1 => ?_)
    · skip
      refine xZ.adv (me := xm116) hP_116 1 (pc' := 116) (lv' := [(0, .ref v0), (1, .ref v1), (2, .int v2), (3, .int v3), (4, .int v4), (5, .int v5), (6, .int v6), (7, .int v7)]) (st' := [.int v6]) rfl ?_
      exact xZ.reti (me := xm116) hP_116 rfl rfl
    · skip
      refine xZ.adv (me := xm116) hP_116 2 (pc' := 46) (lv' := [(0, .ref v0), (1, .ref v1), (2, .int v2), (3, .int v3), (4, .int v4), (5, .int v5), (6, .int v6), (7, .int v7)]) (st' := [.int v7, .ref v0]) rfl ?_
      refine xZ.callv (κ := oI) (av := [.int v7]) (rest := []) (st' := fun x2 => [.int x2]) (k0 := v0) (me := xm116) hP_116 rfl (Or.inl rfl) ⟨rfl, by decide⟩ rfl rfl (Nat.le_of_ble_eq_true rfl) (by decide) hP_119 (Nat.le_of_ble_eq_true rfl) (fun _ => rfl) (k_f_Series_exceptionDay O f (d + 4) v0 v7 M) (fun x2 M1 => ?_)
      refine xZ.adv (me := xm116) hP_116 1 (pc' := 51) (lv' := [(0, .ref v0), (1, .ref v1), (2, .int v2), (3, .int v3), (4, .int v4), (5, .int v5), (6, .int v6), (7, .int v7)]) (st' := [.int v4, .int x2]) rfl ?_
      refine xZ.ic_lt (me := xm116) hP_116 rfl (fun h2 => ?_) (fun h2 => ?_)
      · skip
        exact (k_f_Series_countBegins_68 O f d (f_Series_countBegins_34 O f n) ih v0 v1 v2 v3 v4 v5 v6 v7 M1)
      · skip
        refine xZ.adv (me := xm116) hP_116 2 (pc' := 57) (lv' := [(0, .ref v0), (1, .ref v1), (2, .int v2), (3, .int v3), (4, .int v4), (5, .int v5), (6, .int v6), (7, .int v7)]) (st' := [.int v7, .ref v0]) rfl ?_
        refine xZ.callv (κ := oI) (av := [.int v7]) (rest := []) (st' := fun x3 => [.int x3]) (k0 := v0) (me := xm116) hP_116 rfl (Or.inl rfl) ⟨rfl, by decide⟩ rfl rfl (Nat.le_of_ble_eq_true rfl) (by decide) hP_119 (Nat.le_of_ble_eq_true rfl) (fun _ => rfl) (k_f_Series_exceptionDay O f (d + 4) v0 v7 M1) (fun x3 M2 => ?_)
        refine xZ.adv (me := xm116) hP_116 1 (pc' := 62) (lv' := [(0, .ref v0), (1, .ref v1), (2, .int v2), (3, .int v3), (4, .int v4), (5, .int v5), (6, .int v6), (7, .int v7)]) (st' := [.int v5, .int x3]) rfl ?_
        refine xZ.ic_gt (me := xm116) hP_116 rfl (fun h3 => ?_) (fun h3 => ?_)
        · skip
          exact (k_f_Series_countBegins_68 O f d (f_Series_countBegins_34 O f n) ih v0 v1 v2 v3 v4 v5 v6 v7 M2)
        · skip
          refine xZ.adv (me := xm116) hP_116 1 (pc' := 68) (lv' := [(6, .int (v6 + (-1 : Int32))), (0, .ref v0), (1, .ref v1), (2, .int v2), (3, .int v3), (4, .int v4), (5, .int v5), (7, .int v7)]) (st' := []) rfl ?_
          exact xZ.sub (xsc (.tail _ (.head _)) (xsc (.tail _ (.tail _ (.head _))) (xsc (.tail _ (.tail _ (.tail _ (.head _)))) (xsc (.tail _ (.tail _ (.tail _ (.tail _ (.head _))))) (xsc (.tail _ (.tail _ (.tail _ (.tail _ (.tail _ (.head _)))))) (xsc (.tail _ (.tail _ (.tail _ (.tail _ (.tail _ (.tail _ (.head _))))))) (xsc (.head _) (xsc (.tail _ (.tail _ (.tail _ (.tail _ (.tail _ (.tail _ (.tail _ (.head _)))))))) xsn)))))))) (show ([6, 0, 1, 2, 3, 4, 5, 7] : List Nat).Nodup from by decide) (k_f_Series_countBegins_68 O f d (f_Series_countBegins_34 O f n) ih v0 v1 v2 v3 v4 v5 (v6 + (-1 : Int32)) v7 M2)
def f_Series_countBegins (O : Nat → Option va_E) (f : Nat) (v0 : Nat) (v1 : Nat) (v2 : Int32) (v3 : Int32) (M : xM) : Option (Int32 × xM) :=
  (isO O M v0 10).bind fun _ =>
  xcl (f_Series_firstDayFrom O f v0 v1 v2 M) fun x1 M1 =>
  (isO O M1 v0 10).bind fun _ =>
  xcl (f_Series_firstDayFrom O f v0 v1 v3 M1) fun x2 M2 =>
  (gR O M2 v0 10 6).bind fun x3 =>
  (isO O M2 x3 9).bind fun _ =>
  xcl (f_Rule_count O f x3 x1 (x2 - (1 : Int32)) M2) fun x4 M3 =>
  f_Series_countBegins_34 O f f v0 v1 v2 v3 x1 (x2 - (1 : Int32)) x4 (0 : Int32) M3
set_option maxRecDepth 20000 in
theorem k_f_Series_countBegins (O : Nat → Option va_E) (f d : Nat) (v0 : Nat) (v1 : Nat) (v2 : Int32) (v3 : Int32) (M : xM) : xZ oI O (d + 5) 116 0 [(0, .ref v0), (1, .ref v1), (2, .int v2), (3, .int v3)] [] M (f_Series_countBegins O f v0 v1 v2 v3 M) := by
  unfold f_Series_countBegins
  refine xZ.adv (me := xm116) hP_116 3 (pc' := 3) (lv' := [(0, .ref v0), (1, .ref v1), (2, .int v2), (3, .int v3)]) (st' := [.int v2, .ref v1, .ref v0]) rfl ?_
  refine xZ.callv (κ := oI) (av := [.ref v1, .int v2]) (rest := []) (st' := fun x1 => [.int x1]) (k0 := v0) (me := xm116) hP_116 rfl (Or.inl rfl) ⟨rfl, by decide⟩ rfl rfl (Nat.le_of_ble_eq_true rfl) (by decide) hP_117 (Nat.le_of_ble_eq_true rfl) (fun _ => rfl) (k_f_Series_firstDayFrom O f (d + 0) v0 v1 v2 M) (fun x1 M1 => ?_)
  refine xZ.adv (me := xm116) hP_116 4 (pc' := 11) (lv' := [(4, .int x1), (0, .ref v0), (1, .ref v1), (2, .int v2), (3, .int v3)]) (st' := [.int v3, .ref v1, .ref v0]) rfl ?_
  refine xZ.callv (κ := oI) (av := [.ref v1, .int v3]) (rest := []) (st' := fun x2 => [.int x2]) (k0 := v0) (me := xm116) hP_116 rfl (Or.inl rfl) ⟨rfl, by decide⟩ rfl rfl (Nat.le_of_ble_eq_true rfl) (by decide) hP_117 (Nat.le_of_ble_eq_true rfl) (fun _ => rfl) (k_f_Series_firstDayFrom O f (d + 0) v0 v1 v3 M1) (fun x2 M2 => ?_)
  refine xZ.adv (me := xm116) hP_116 4 (pc' := 19) (lv' := [(5, .int (x2 - (1 : Int32))), (4, .int x1), (0, .ref v0), (1, .ref v1), (2, .int v2), (3, .int v3)]) (st' := [.ref v0]) rfl ?_
  refine xZ.k_gR (me := xm116) hP_116 rfl (fun x3 => ?_)
  refine xZ.adv (me := xm116) hP_116 2 (pc' := 26) (lv' := [(5, .int (x2 - (1 : Int32))), (4, .int x1), (0, .ref v0), (1, .ref v1), (2, .int v2), (3, .int v3)]) (st' := [.int (x2 - (1 : Int32)), .int x1, .ref x3]) rfl ?_
  refine xZ.callv (κ := oI) (av := [.int x1, .int (x2 - (1 : Int32))]) (rest := []) (st' := fun x4 => [.int x4]) (k0 := x3) (me := xm116) hP_116 rfl (Or.inl rfl) ⟨rfl, by decide⟩ rfl rfl (Nat.le_of_ble_eq_true rfl) (by decide) hP_94 (Nat.le_of_ble_eq_true rfl) (fun _ => rfl) (k_f_Rule_count O f (d + 0) x3 x1 (x2 - (1 : Int32)) M2) (fun x4 M3 => ?_)
  refine xZ.adv (me := xm116) hP_116 3 (pc' := 34) (lv' := [(7, .int (0 : Int32)), (6, .int x4), (5, .int (x2 - (1 : Int32))), (4, .int x1), (0, .ref v0), (1, .ref v1), (2, .int v2), (3, .int v3)]) (st' := []) rfl ?_
  exact xZ.sub (xsc (.tail _ (.tail _ (.tail _ (.tail _ (.head _))))) (xsc (.tail _ (.tail _ (.tail _ (.tail _ (.tail _ (.head _)))))) (xsc (.tail _ (.tail _ (.tail _ (.tail _ (.tail _ (.tail _ (.head _))))))) (xsc (.tail _ (.tail _ (.tail _ (.tail _ (.tail _ (.tail _ (.tail _ (.head _)))))))) (xsc (.tail _ (.tail _ (.tail _ (.head _)))) (xsc (.tail _ (.tail _ (.head _))) (xsc (.tail _ (.head _)) (xsc (.head _) xsn)))))))) (show ([7, 6, 5, 4, 0, 1, 2, 3] : List Nat).Nodup from by decide) (k_f_Series_countBegins_34 O f d f v0 v1 v2 v3 x1 (x2 - (1 : Int32)) x4 (0 : Int32) M3)
def f_Calendarhall_countDates (O : Nat → Option va_E) (f : Nat) (v0 : Nat) (v1 : Int32) (v2 : Int32) (v3 : Int32) (M : xM) : Option (Int32 × xM) :=
  (isO O M v0 12).bind fun _ =>
  xcl (f_Calendarhall_seriesNumbered O f v0 v1 M) fun x1 M1 =>
  xcl (f_Calendarhall_needPiece O f v2 v3 (525600 : Int32) M1) fun _ M2 =>
  (gR O M2 v0 12 0).bind fun x3 =>
  (isO O M2 x3 4).bind fun _ =>
  xcl (f_Hall_zoneOf O f x3 x1 M2) fun x4 M3 =>
  (isO O M3 x1 10).bind fun _ =>
  xcl (f_Series_countBegins O f x1 x4 v2 v3 M3) fun x5 M4 =>
  some (x5, M4)
set_option maxRecDepth 20000 in
theorem k_f_Calendarhall_countDates (O : Nat → Option va_E) (f d : Nat) (v0 : Nat) (v1 : Int32) (v2 : Int32) (v3 : Int32) (M : xM) : xZ oI O (d + 6) 113 0 [(0, .ref v0), (1, .int v1), (2, .int v2), (3, .int v3)] [] M (f_Calendarhall_countDates O f v0 v1 v2 v3 M) := by
  unfold f_Calendarhall_countDates
  refine xZ.adv (me := xm113) hP_113 2 (pc' := 2) (lv' := [(0, .ref v0), (1, .int v1), (2, .int v2), (3, .int v3)]) (st' := [.int v1, .ref v0]) rfl ?_
  refine xZ.callv (κ := oR) (av := [.int v1]) (rest := []) (st' := fun x1 => [.ref x1]) (k0 := v0) (me := xm113) hP_113 rfl (Or.inl rfl) ⟨rfl, by decide⟩ rfl rfl (Nat.le_of_ble_eq_true rfl) (by decide) hP_79 (Nat.le_of_ble_eq_true rfl) (fun _ => rfl) (k_f_Calendarhall_seriesNumbered O f (d + 4) v0 v1 M) (fun x1 M1 => ?_)
  refine xZ.adv (me := xm113) hP_113 4 (pc' := 12) (lv' := [(4, .ref x1), (0, .ref v0), (1, .int v1), (2, .int v2), (3, .int v3)]) (st' := [.int (525600 : Int32), .int v3, .int v2]) rfl ?_
  refine xZ.calls (κ := oU) (av := [.int v2, .int v3, .int (525600 : Int32)]) (rest := []) (st' := fun _ => []) (me := xm113) hP_113 rfl rfl rfl (Nat.le_of_ble_eq_true rfl) (by decide) hP_114 (Nat.le_of_ble_eq_true rfl) (fun _ => rfl) (k_f_Calendarhall_needPiece O f (d + 4) v2 v3 (525600 : Int32) M1) (fun _ M2 => ?_)
  refine xZ.adv (me := xm113) hP_113 2 (pc' := 18) (lv' := [(4, .ref x1), (0, .ref v0), (1, .int v1), (2, .int v2), (3, .int v3)]) (st' := [.ref v0, .ref x1]) rfl ?_
  refine xZ.k_gR (me := xm113) hP_113 rfl (fun x3 => ?_)
  refine xZ.adv (me := xm113) hP_113 1 (pc' := 23) (lv' := [(4, .ref x1), (0, .ref v0), (1, .int v1), (2, .int v2), (3, .int v3)]) (st' := [.ref x1, .ref x3, .ref x1]) rfl ?_
  refine xZ.callv (κ := oR) (av := [.ref x1]) (rest := [.ref x1]) (st' := fun x4 => [.ref x4, .ref x1]) (k0 := x3) (me := xm113) hP_113 rfl (Or.inl rfl) ⟨rfl, by decide⟩ rfl rfl (Nat.le_of_ble_eq_true rfl) (by decide) hP_102 (Nat.le_of_ble_eq_true rfl) (fun _ => rfl) (k_f_Hall_zoneOf O f (d + 4) x3 x1 M2) (fun x4 M3 => ?_)
  refine xZ.adv (me := xm113) hP_113 2 (pc' := 28) (lv' := [(4, .ref x1), (0, .ref v0), (1, .int v1), (2, .int v2), (3, .int v3)]) (st' := [.int v3, .int v2, .ref x4, .ref x1]) rfl ?_
  refine xZ.callv (κ := oI) (av := [.ref x4, .int v2, .int v3]) (rest := []) (st' := fun x5 => [.int x5]) (k0 := x1) (me := xm113) hP_113 rfl (Or.inl rfl) ⟨rfl, by decide⟩ rfl rfl (Nat.le_of_ble_eq_true rfl) (by decide) hP_116 (Nat.le_of_ble_eq_true rfl) (fun _ => rfl) (k_f_Series_countBegins O f (d + 0) x1 x4 v2 v3 M3) (fun x5 M4 => ?_)
  exact xZ.reti (me := xm113) hP_113 rfl rfl
def f_Dates_row (O : Nat → Option va_E) (f : Nat) (v0 : Int32) (v1 : Int32) (v2 : Int32) (v3 : Int32) (M : xM) : Option (Int64 × xM) :=
  xlet (((((Int32.toInt64 v0) <<< (Int32.toInt64 (23 : Int32) &&& 63)) ||| ((Int32.toInt64 v1) <<< (Int32.toInt64 (19 : Int32) &&& 63))) ||| ((Int32.toInt64 v2) <<< (Int32.toInt64 (1 : Int32) &&& 63))) ||| (Int32.toInt64 v3)) fun x1 =>
  some (x1, M)
set_option maxRecDepth 20000 in
theorem k_f_Dates_row (O : Nat → Option va_E) (f d : Nat) (v0 : Int32) (v1 : Int32) (v2 : Int32) (v3 : Int32) (M : xM) : xZ oL O (d + 0) 122 0 [(0, .int v0), (1, .int v1), (2, .int v2), (3, .int v3)] [] M (f_Dates_row O f v0 v1 v2 v3 M) := by
  unfold f_Dates_row
  refine xZ.adv (me := xm122) hP_122 17 (pc' := 19) (lv' := [(0, .int v0), (1, .int v1), (2, .int v2), (3, .int v3)]) (st' := [.long (((((Int32.toInt64 v0) <<< (Int32.toInt64 (23 : Int32) &&& 63)) ||| ((Int32.toInt64 v1) <<< (Int32.toInt64 (19 : Int32) &&& 63))) ||| ((Int32.toInt64 v2) <<< (Int32.toInt64 (1 : Int32) &&& 63))) ||| (Int32.toInt64 v3))]) rfl ?_
  refine xZ.letI (v := (((((Int32.toInt64 v0) <<< (Int32.toInt64 (23 : Int32) &&& 63)) ||| ((Int32.toInt64 v1) <<< (Int32.toInt64 (19 : Int32) &&& 63))) ||| ((Int32.toInt64 v2) <<< (Int32.toInt64 (1 : Int32) &&& 63))) ||| (Int32.toInt64 v3))) (lvf := fun x1 => [(0, .int v0), (1, .int v1), (2, .int v2), (3, .int v3)]) (stf := fun x1 => [.long x1]) ?_
  intro x1
  exact xZ.retl (me := xm122) hP_122 rfl rfl
def f_Series_firstRow_178 (O : Nat → Option va_E) (f : Nat) (K108 : Nat → Nat → Int32 → Int64 → Int32 → xM → Option (Int64 × xM)) (v0 : Nat) (v1 : Nat) (v2 : Int32) (v6 : Int32) (v8 : Int64) (M : xM) : Option (Int64 × xM) :=
  K108 v0 v1 v2 v8 (v6 + (1 : Int32)) M
set_option maxRecDepth 20000 in
theorem k_f_Series_firstRow_178 (O : Nat → Option va_E) (f d : Nat) (K108 : Nat → Nat → Int32 → Int64 → Int32 → xM → Option (Int64 × xM)) (hK108 : ∀ (v0 : Nat) (v1 : Nat) (v2 : Int32) (v3 : Int64) (v6 : Int32) M, xZ oL O (d + 5) 121 108 [(0, .ref v0), (1, .ref v1), (2, .int v2), (3, .long v3), (6, .int v6)] [] M (K108 v0 v1 v2 v3 v6 M)) (v0 : Nat) (v1 : Nat) (v2 : Int32) (v6 : Int32) (v8 : Int64) (M : xM) : xZ oL O (d + 5) 121 178 [(0, .ref v0), (1, .ref v1), (2, .int v2), (6, .int v6), (8, .long v8)] [] M (f_Series_firstRow_178 O f K108 v0 v1 v2 v6 v8 M) := by
  unfold f_Series_firstRow_178
  refine xZ.adv (me := xm121) hP_121 4 (pc' := 108) (lv' := [(6, .int (v6 + (1 : Int32))), (3, .long v8), (0, .ref v0), (1, .ref v1), (2, .int v2), (8, .long v8)]) (st' := []) rfl ?_
  exact xZ.sub (xsc (.tail _ (.tail _ (.head _))) (xsc (.tail _ (.tail _ (.tail _ (.head _)))) (xsc (.tail _ (.tail _ (.tail _ (.tail _ (.head _))))) (xsc (.tail _ (.head _)) (xsc (.head _) xsn))))) (show ([6, 3, 0, 1, 2, 8] : List Nat).Nodup from by decide) (hK108 v0 v1 v2 v8 (v6 + (1 : Int32)) M)
def f_Series_firstRow_108 (O : Nat → Option va_E) (f : Nat) : Nat → Nat → Nat → Int32 → Int64 → Int32 → xM → Option (Int64 × xM)
  | 0, _, _, _, _, _, _ => none
  | n + 1, v0, v1, v2, v3, v6, M =>
    (gI O M v0 10 7).bind fun x1 =>
    if x1 ≤ v6 then (
      some (v3, M)
    ) else
    (isO O M v0 10).bind fun _ =>
    xcl (f_Series_exceptionTo O f v0 v6 M) fun x2 M1 =>
    if x2 = (-1 : Int32) then (
      f_Series_firstRow_108 O f n v0 v1 v2 v3 (v6 + (1 : Int32)) M1
    ) else
    (isO O M1 v0 10).bind fun _ =>
    xcl (f_Series_exceptionTo O f v0 v6 M1) fun x3 M2 =>
    (isO O M2 v1 11).bind fun _ =>
    xcl (f_Zone_commonOf O f v1 x3 M2) fun x4 M3 =>
    (isO O M3 v0 10).bind fun _ =>
    xcl (f_Series_exceptionDay O f v0 v6 M3) fun x5 M4 =>
    xcl (f_Dates_row O f x4 (0 : Int32) x5 (0 : Int32) M4) fun x6 M5 =>
    if x4 < v2 then (
      f_Series_firstRow_108 O f n v0 v1 v2 v3 (v6 + (1 : Int32)) M5
    ) else
    if (lg_cmp v3 (-1 : Int64)) = 0 then (
      f_Series_firstRow_178 O f (f_Series_firstRow_108 O f n) v0 v1 v2 v6 x6 M5
    ) else
    if 0 ≤ (lg_cmp x6 v3) then (
      f_Series_firstRow_108 O f n v0 v1 v2 v3 (v6 + (1 : Int32)) M5
    ) else
    f_Series_firstRow_178 O f (f_Series_firstRow_108 O f n) v0 v1 v2 v6 x6 M5
set_option maxRecDepth 20000 in
theorem k_f_Series_firstRow_108 (O : Nat → Option va_E) (f d : Nat) : ∀ (n : Nat) (v0 : Nat) (v1 : Nat) (v2 : Int32) (v3 : Int64) (v6 : Int32) (M : xM), xZ oL O (d + 5) 121 108 [(0, .ref v0), (1, .ref v1), (2, .int v2), (3, .long v3), (6, .int v6)] [] M (f_Series_firstRow_108 O f n v0 v1 v2 v3 v6 M) := by
  intro n
  induction n with
  | zero =>
    intro v0 v1 v2 v3 v6 M
    exact xZ.no
  | succ n ih =>
    intro v0 v1 v2 v3 v6 M
    unfold f_Series_firstRow_108
    refine xZ.adv (me := xm121) hP_121 2 (pc' := 111) (lv' := [(0, .ref v0), (1, .ref v1), (2, .int v2), (3, .long v3), (6, .int v6)]) (st' := [.ref v0, .int v6]) rfl ?_
    refine xZ.k_gI (me := xm121) hP_121 rfl (fun x1 => ?_)
    refine xZ.ic_ge (me := xm121) hP_121 rfl (fun h1 => ?_) (fun h1 => ?_)
    · skip
      refine xZ.adv (me := xm121) hP_121 1 (pc' := 188) (lv' := [(0, .ref v0), (1, .ref v1), (2, .int v2), (3, .long v3), (6, .int v6)]) (st' := [.long v3]) rfl ?_
      exact xZ.retl (me := xm121) hP_121 rfl rfl
    · skip
      refine xZ.adv (me := xm121) hP_121 2 (pc' := 120) (lv' := [(0, .ref v0), (1, .ref v1), (2, .int v2), (3, .long v3), (6, .int v6)]) (st' := [.int v6, .ref v0]) rfl ?_
      refine xZ.callv (κ := oI) (av := [.int v6]) (rest := []) (st' := fun x2 => [.int x2]) (k0 := v0) (me := xm121) hP_121 rfl (Or.inl rfl) ⟨rfl, by decide⟩ rfl rfl (Nat.le_of_ble_eq_true rfl) (by decide) hP_108 (Nat.le_of_ble_eq_true rfl) (fun _ => rfl) (k_f_Series_exceptionTo O f (d + 4) v0 v6 M) (fun x2 M1 => ?_)
      refine xZ.adv (me := xm121) hP_121 1 (pc' := 124) (lv' := [(0, .ref v0), (1, .ref v1), (2, .int v2), (3, .long v3), (6, .int v6)]) (st' := [.int (-1 : Int32), .int x2]) rfl ?_
      refine xZ.ic_ne (me := xm121) hP_121 rfl (fun h2 => ?_) (fun h2 => ?_)
      · skip
        refine xZ.adv (me := xm121) hP_121 3 (pc' := 108) (lv' := [(6, .int (v6 + (1 : Int32))), (0, .ref v0), (1, .ref v1), (2, .int v2), (3, .long v3)]) (st' := []) rfl ?_
        exact xZ.sub (xsc (.tail _ (.head _)) (xsc (.tail _ (.tail _ (.head _))) (xsc (.tail _ (.tail _ (.tail _ (.head _)))) (xsc (.tail _ (.tail _ (.tail _ (.tail _ (.head _))))) (xsc (.head _) xsn))))) (show ([6, 0, 1, 2, 3] : List Nat).Nodup from by decide) (ih v0 v1 v2 v3 (v6 + (1 : Int32)) M1)
      · skip
        refine xZ.adv (me := xm121) hP_121 3 (pc' := 134) (lv' := [(0, .ref v0), (1, .ref v1), (2, .int v2), (3, .long v3), (6, .int v6)]) (st' := [.int v6, .ref v0, .ref v1]) rfl ?_
        refine xZ.callv (κ := oI) (av := [.int v6]) (rest := [.ref v1]) (st' := fun x3 => [.int x3, .ref v1]) (k0 := v0) (me := xm121) hP_121 rfl (Or.inl rfl) ⟨rfl, by decide⟩ rfl rfl (Nat.le_of_ble_eq_true rfl) (by decide) hP_108 (Nat.le_of_ble_eq_true rfl) (fun _ => rfl) (k_f_Series_exceptionTo O f (d + 4) v0 v6 M1) (fun x3 M2 => ?_)
        refine xZ.callv (κ := oI) (av := [.int x3]) (rest := []) (st' := fun x4 => [.int x4]) (k0 := v1) (me := xm121) hP_121 rfl (Or.inl rfl) ⟨rfl, by decide⟩ rfl rfl (Nat.le_of_ble_eq_true rfl) (by decide) hP_105 (Nat.le_of_ble_eq_true rfl) (fun _ => rfl) (k_f_Zone_commonOf O f (d + 1) v1 x3 M2) (fun x4 M3 => ?_)
        refine xZ.adv (me := xm121) hP_121 5 (pc' := 148) (lv' := [(7, .int x4), (0, .ref v0), (1, .ref v1), (2, .int v2), (3, .long v3), (6, .int v6)]) (st' := [.int v6, .ref v0, .int (0 : Int32), .int x4]) rfl ?_
        refine xZ.callv (κ := oI) (av := [.int v6]) (rest := [.int (0 : Int32), .int x4]) (st' := fun x5 => [.int x5, .int (0 : Int32), .int x4]) (k0 := v0) (me := xm121) hP_121 rfl (Or.inl rfl) ⟨rfl, by decide⟩ rfl rfl (Nat.le_of_ble_eq_true rfl) (by decide) hP_119 (Nat.le_of_ble_eq_true rfl) (fun _ => rfl) (k_f_Series_exceptionDay O f (d + 4) v0 v6 M3) (fun x5 M4 => ?_)
        refine xZ.adv (me := xm121) hP_121 1 (pc' := 152) (lv' := [(7, .int x4), (0, .ref v0), (1, .ref v1), (2, .int v2), (3, .long v3), (6, .int v6)]) (st' := [.int (0 : Int32), .int x5, .int (0 : Int32), .int x4]) rfl ?_
        refine xZ.calls (κ := oL) (av := [.int x4, .int (0 : Int32), .int x5, .int (0 : Int32)]) (rest := []) (st' := fun x6 => [.long x6]) (me := xm121) hP_121 rfl rfl rfl (Nat.le_of_ble_eq_true rfl) (by decide) hP_122 (Nat.le_of_ble_eq_true rfl) (fun _ => rfl) (k_f_Dates_row O f (d + 4) x4 (0 : Int32) x5 (0 : Int32) M4) (fun x6 M5 => ?_)
        refine xZ.adv (me := xm121) hP_121 3 (pc' := 160) (lv' := [(8, .long x6), (7, .int x4), (0, .ref v0), (1, .ref v1), (2, .int v2), (3, .long v3), (6, .int v6)]) (st' := [.int v2, .int x4]) rfl ?_
        refine xZ.ic_lt (me := xm121) hP_121 rfl (fun h3 => ?_) (fun h3 => ?_)
        · skip
          refine xZ.adv (me := xm121) hP_121 2 (pc' := 108) (lv' := [(6, .int (v6 + (1 : Int32))), (8, .long x6), (7, .int x4), (0, .ref v0), (1, .ref v1), (2, .int v2), (3, .long v3)]) (st' := []) rfl ?_
          exact xZ.sub (xsc (.tail _ (.tail _ (.tail _ (.head _)))) (xsc (.tail _ (.tail _ (.tail _ (.tail _ (.head _))))) (xsc (.tail _ (.tail _ (.tail _ (.tail _ (.tail _ (.head _)))))) (xsc (.tail _ (.tail _ (.tail _ (.tail _ (.tail _ (.tail _ (.head _))))))) (xsc (.head _) xsn))))) (show ([6, 8, 7, 0, 1, 2, 3] : List Nat).Nodup from by decide) (ih v0 v1 v2 v3 (v6 + (1 : Int32)) M5)
        · skip
          refine xZ.adv (me := xm121) hP_121 3 (pc' := 168) (lv' := [(8, .long x6), (7, .int x4), (0, .ref v0), (1, .ref v1), (2, .int v2), (3, .long v3), (6, .int v6)]) (st' := [.int (lg_cmp v3 (-1 : Int64))]) rfl ?_
          refine xZ.if_eq (me := xm121) hP_121 rfl (fun h4 => ?_) (fun h4 => ?_)
          · skip
            exact xZ.sub (xsc (.tail _ (.tail _ (.head _))) (xsc (.tail _ (.tail _ (.tail _ (.head _)))) (xsc (.tail _ (.tail _ (.tail _ (.tail _ (.head _))))) (xsc (.tail _ (.tail _ (.tail _ (.tail _ (.tail _ (.tail _ (.head _))))))) (xsc (.head _) xsn))))) (show ([8, 7, 0, 1, 2, 3, 6] : List Nat).Nodup from by decide) (k_f_Series_firstRow_178 O f d (f_Series_firstRow_108 O f n) ih v0 v1 v2 v6 x6 M5)
          · skip
            refine xZ.adv (me := xm121) hP_121 3 (pc' := 175) (lv' := [(8, .long x6), (7, .int x4), (0, .ref v0), (1, .ref v1), (2, .int v2), (3, .long v3), (6, .int v6)]) (st' := [.int (lg_cmp x6 v3)]) rfl ?_
            refine xZ.if_ge (me := xm121) hP_121 rfl (fun h5 => ?_) (fun h5 => ?_)
            · skip
              refine xZ.adv (me := xm121) hP_121 2 (pc' := 108) (lv' := [(6, .int (v6 + (1 : Int32))), (8, .long x6), (7, .int x4), (0, .ref v0), (1, .ref v1), (2, .int v2), (3, .long v3)]) (st' := []) rfl ?_
              exact xZ.sub (xsc (.tail _ (.tail _ (.tail _ (.head _)))) (xsc (.tail _ (.tail _ (.tail _ (.tail _ (.head _))))) (xsc (.tail _ (.tail _ (.tail _ (.tail _ (.tail _ (.head _)))))) (xsc (.tail _ (.tail _ (.tail _ (.tail _ (.tail _ (.tail _ (.head _))))))) (xsc (.head _) xsn))))) (show ([6, 8, 7, 0, 1, 2, 3] : List Nat).Nodup from by decide) (ih v0 v1 v2 v3 (v6 + (1 : Int32)) M5)
            · skip
              exact xZ.sub (xsc (.tail _ (.tail _ (.head _))) (xsc (.tail _ (.tail _ (.tail _ (.head _)))) (xsc (.tail _ (.tail _ (.tail _ (.tail _ (.head _))))) (xsc (.tail _ (.tail _ (.tail _ (.tail _ (.tail _ (.tail _ (.head _))))))) (xsc (.head _) xsn))))) (show ([8, 7, 0, 1, 2, 3, 6] : List Nat).Nodup from by decide) (k_f_Series_firstRow_178 O f d (f_Series_firstRow_108 O f n) ih v0 v1 v2 v6 x6 M5)
def f_Series_firstRow_105 (O : Nat → Option va_E) (f : Nat) (v0 : Nat) (v1 : Nat) (v2 : Int32) (v3 : Int64) (M : xM) : Option (Int64 × xM) :=
  f_Series_firstRow_108 O f f v0 v1 v2 v3 (0 : Int32) M
set_option maxRecDepth 20000 in
theorem k_f_Series_firstRow_105 (O : Nat → Option va_E) (f d : Nat) (v0 : Nat) (v1 : Nat) (v2 : Int32) (v3 : Int64) (M : xM) : xZ oL O (d + 5) 121 105 [(0, .ref v0), (1, .ref v1), (2, .int v2), (3, .long v3)] [] M (f_Series_firstRow_105 O f v0 v1 v2 v3 M) := by
  unfold f_Series_firstRow_105
  refine xZ.adv (me := xm121) hP_121 2 (pc' := 108) (lv' := [(6, .int (0 : Int32)), (0, .ref v0), (1, .ref v1), (2, .int v2), (3, .long v3)]) (st' := []) rfl ?_
  exact xZ.sub (xsc (.tail _ (.head _)) (xsc (.tail _ (.tail _ (.head _))) (xsc (.tail _ (.tail _ (.tail _ (.head _)))) (xsc (.tail _ (.tail _ (.tail _ (.tail _ (.head _))))) (xsc (.head _) xsn))))) (show ([6, 0, 1, 2, 3] : List Nat).Nodup from by decide) (k_f_Series_firstRow_108 O f d f v0 v1 v2 v3 (0 : Int32) M)
def f_Series_firstRow_86 (O : Nat → Option va_E) (f : Nat) (K22 : Nat → Nat → Int32 → Int64 → Int32 → Int32 → xM → Option (Int64 × xM)) (v0 : Nat) (v1 : Nat) (v2 : Int32) (v3 : Int64) (v5 : Int32) (v6 : Int32) (M : xM) : Option (Int64 × xM) :=
  (gR O M v0 10 6).bind fun x1 =>
  (isO O M x1 9).bind fun _ =>
  xcl (f_Rule_next O f x1 (v5 + (1 : Int32)) M) fun x2 M1 =>
  K22 v0 v1 v2 v3 x2 (v6 + (1 : Int32)) M1
set_option maxRecDepth 20000 in
theorem k_f_Series_firstRow_86 (O : Nat → Option va_E) (f d : Nat) (K22 : Nat → Nat → Int32 → Int64 → Int32 → Int32 → xM → Option (Int64 × xM)) (hK22 : ∀ (v0 : Nat) (v1 : Nat) (v2 : Int32) (v3 : Int64) (v5 : Int32) (v6 : Int32) M, xZ oL O (d + 5) 121 22 [(0, .ref v0), (1, .ref v1), (2, .int v2), (3, .long v3), (5, .int v5), (6, .int v6)] [] M (K22 v0 v1 v2 v3 v5 v6 M)) (v0 : Nat) (v1 : Nat) (v2 : Int32) (v3 : Int64) (v5 : Int32) (v6 : Int32) (M : xM) : xZ oL O (d + 5) 121 86 [(0, .ref v0), (1, .ref v1), (2, .int v2), (3, .long v3), (5, .int v5), (6, .int v6)] [] M (f_Series_firstRow_86 O f K22 v0 v1 v2 v3 v5 v6 M) := by
  unfold f_Series_firstRow_86
  refine xZ.adv (me := xm121) hP_121 1 (pc' := 87) (lv' := [(0, .ref v0), (1, .ref v1), (2, .int v2), (3, .long v3), (5, .int v5), (6, .int v6)]) (st' := [.ref v0]) rfl ?_
  refine xZ.k_gR (me := xm121) hP_121 rfl (fun x1 => ?_)
  refine xZ.adv (me := xm121) hP_121 3 (pc' := 94) (lv' := [(0, .ref v0), (1, .ref v1), (2, .int v2), (3, .long v3), (5, .int v5), (6, .int v6)]) (st' := [.int (v5 + (1 : Int32)), .ref x1]) rfl ?_
  refine xZ.callv (κ := oI) (av := [.int (v5 + (1 : Int32))]) (rest := []) (st' := fun x2 => [.int x2]) (k0 := x1) (me := xm121) hP_121 rfl (Or.inl rfl) ⟨rfl, by decide⟩ rfl rfl (Nat.le_of_ble_eq_true rfl) (by decide) hP_45 (Nat.le_of_ble_eq_true rfl) (fun _ => rfl) (k_f_Rule_next O f (d + 0) x1 (v5 + (1 : Int32)) M) (fun x2 M1 => ?_)
  refine xZ.adv (me := xm121) hP_121 3 (pc' := 22) (lv' := [(6, .int (v6 + (1 : Int32))), (5, .int x2), (0, .ref v0), (1, .ref v1), (2, .int v2), (3, .long v3)]) (st' := []) rfl ?_
  exact xZ.sub (xsc (.tail _ (.tail _ (.head _))) (xsc (.tail _ (.tail _ (.tail _ (.head _)))) (xsc (.tail _ (.tail _ (.tail _ (.tail _ (.head _))))) (xsc (.tail _ (.tail _ (.tail _ (.tail _ (.tail _ (.head _)))))) (xsc (.tail _ (.head _)) (xsc (.head _) xsn)))))) (show ([6, 5, 0, 1, 2, 3] : List Nat).Nodup from by decide) (hK22 v0 v1 v2 v3 x2 (v6 + (1 : Int32)) M1)
def f_Series_firstRow_22 (O : Nat → Option va_E) (f : Nat) : Nat → Nat → Nat → Int32 → Int64 → Int32 → Int32 → xM → Option (Int64 × xM)
  | 0, _, _, _, _, _, _, _ => none
  | n + 1, v0, v1, v2, v3, v5, v6, M =>
    if (12 : Int32) < v6 then (
      f_Series_firstRow_105 O f v0 v1 v2 v3 M
    ) else
    if v5 = (-1 : Int32) then (
      f_Series_firstRow_105 O f v0 v1 v2 v3 M
    ) else
    if (lg_cmp v3 (-1 : Int64)) = 0 then (
      (gI O M v0 10 2).bind fun x1 =>
      (isO O M v1 11).bind fun _ =>
      xcl (f_Zone_commonOf O f v1 ((v5 * (1440 : Int32)) + x1) M) fun x2 M1 =>
      if x2 < v2 then (
        f_Series_firstRow_86 O f (f_Series_firstRow_22 O f n) v0 v1 v2 v3 v5 v6 M1
      ) else
      (isO O M1 v0 10).bind fun _ =>
      xcl (f_Series_exceptionOf O f v0 v5 M1) fun x3 M2 =>
      if x3 = (-1 : Int32) then (
        xcl (f_Dates_row O f x2 (0 : Int32) v5 (0 : Int32) M2) fun x4 M3 =>
        f_Series_firstRow_86 O f (f_Series_firstRow_22 O f n) v0 v1 v2 x4 v5 v6 M3
      ) else
      f_Series_firstRow_86 O f (f_Series_firstRow_22 O f n) v0 v1 v2 v3 v5 v6 M2
    ) else
    f_Series_firstRow_105 O f v0 v1 v2 v3 M
set_option maxRecDepth 20000 in
theorem k_f_Series_firstRow_22 (O : Nat → Option va_E) (f d : Nat) : ∀ (n : Nat) (v0 : Nat) (v1 : Nat) (v2 : Int32) (v3 : Int64) (v5 : Int32) (v6 : Int32) (M : xM), xZ oL O (d + 5) 121 22 [(0, .ref v0), (1, .ref v1), (2, .int v2), (3, .long v3), (5, .int v5), (6, .int v6)] [] M (f_Series_firstRow_22 O f n v0 v1 v2 v3 v5 v6 M) := by
  intro n
  induction n with
  | zero =>
    intro v0 v1 v2 v3 v5 v6 M
    exact xZ.no
  | succ n ih =>
    intro v0 v1 v2 v3 v5 v6 M
    unfold f_Series_firstRow_22
    refine xZ.adv (me := xm121) hP_121 2 (pc' := 26) (lv' := [(0, .ref v0), (1, .ref v1), (2, .int v2), (3, .long v3), (5, .int v5), (6, .int v6)]) (st' := [.int (12 : Int32), .int v6]) rfl ?_
    refine xZ.ic_gt (me := xm121) hP_121 rfl (fun h1 => ?_) (fun h1 => ?_)
    · skip
      exact xZ.sub (xsc (.head _) (xsc (.tail _ (.head _)) (xsc (.tail _ (.tail _ (.head _))) (xsc (.tail _ (.tail _ (.tail _ (.head _)))) xsn)))) (show ([0, 1, 2, 3, 5, 6] : List Nat).Nodup from by decide) (k_f_Series_firstRow_105 O f d v0 v1 v2 v3 M)
    · skip
      refine xZ.adv (me := xm121) hP_121 2 (pc' := 32) (lv' := [(0, .ref v0), (1, .ref v1), (2, .int v2), (3, .long v3), (5, .int v5), (6, .int v6)]) (st' := [.int (-1 : Int32), .int v5]) rfl ?_
      refine xZ.ic_eq (me := xm121) hP_121 rfl (fun h2 => ?_) (fun h2 => ?_)
      · skip
        exact xZ.sub (xsc (.head _) (xsc (.tail _ (.head _)) (xsc (.tail _ (.tail _ (.head _))) (xsc (.tail _ (.tail _ (.tail _ (.head _)))) xsn)))) (show ([0, 1, 2, 3, 5, 6] : List Nat).Nodup from by decide) (k_f_Series_firstRow_105 O f d v0 v1 v2 v3 M)
      · skip
        refine xZ.adv (me := xm121) hP_121 3 (pc' := 40) (lv' := [(0, .ref v0), (1, .ref v1), (2, .int v2), (3, .long v3), (5, .int v5), (6, .int v6)]) (st' := [.int (lg_cmp v3 (-1 : Int64))]) rfl ?_
        refine xZ.if_ne (me := xm121) hP_121 rfl (fun h3 => ?_) (fun h3 => ?_)
        · skip
          refine xZ.adv (me := xm121) hP_121 5 (pc' := 51) (lv' := [(0, .ref v0), (1, .ref v1), (2, .int v2), (3, .long v3), (5, .int v5), (6, .int v6)]) (st' := [.ref v0, .int (v5 * (1440 : Int32)), .ref v1]) rfl ?_
          refine xZ.k_gI (me := xm121) hP_121 rfl (fun x1 => ?_)
          refine xZ.adv (me := xm121) hP_121 1 (pc' := 55) (lv' := [(0, .ref v0), (1, .ref v1), (2, .int v2), (3, .long v3), (5, .int v5), (6, .int v6)]) (st' := [.int ((v5 * (1440 : Int32)) + x1), .ref v1]) rfl ?_
          refine xZ.callv (κ := oI) (av := [.int ((v5 * (1440 : Int32)) + x1)]) (rest := []) (st' := fun x2 => [.int x2]) (k0 := v1) (me := xm121) hP_121 rfl (Or.inl rfl) ⟨rfl, by decide⟩ rfl rfl (Nat.le_of_ble_eq_true rfl) (by decide) hP_105 (Nat.le_of_ble_eq_true rfl) (fun _ => rfl) (k_f_Zone_commonOf O f (d + 1) v1 ((v5 * (1440 : Int32)) + x1) M) (fun x2 M1 => ?_)
          refine xZ.adv (me := xm121) hP_121 3 (pc' := 63) (lv' := [(7, .int x2), (0, .ref v0), (1, .ref v1), (2, .int v2), (3, .long v3), (5, .int v5), (6, .int v6)]) (st' := [.int v2, .int x2]) rfl ?_
          refine xZ.ic_lt (me := xm121) hP_121 rfl (fun h4 => ?_) (fun h4 => ?_)
          · skip
            exact xZ.sub (xsc (.tail _ (.head _)) (xsc (.tail _ (.tail _ (.head _))) (xsc (.tail _ (.tail _ (.tail _ (.head _)))) (xsc (.tail _ (.tail _ (.tail _ (.tail _ (.head _))))) (xsc (.tail _ (.tail _ (.tail _ (.tail _ (.tail _ (.head _)))))) (xsc (.tail _ (.tail _ (.tail _ (.tail _ (.tail _ (.tail _ (.head _))))))) xsn)))))) (show ([7, 0, 1, 2, 3, 5, 6] : List Nat).Nodup from by decide) (k_f_Series_firstRow_86 O f d (f_Series_firstRow_22 O f n) ih v0 v1 v2 v3 v5 v6 M1)
          · skip
            refine xZ.adv (me := xm121) hP_121 2 (pc' := 69) (lv' := [(7, .int x2), (0, .ref v0), (1, .ref v1), (2, .int v2), (3, .long v3), (5, .int v5), (6, .int v6)]) (st' := [.int v5, .ref v0]) rfl ?_
            refine xZ.callv (κ := oI) (av := [.int v5]) (rest := []) (st' := fun x3 => [.int x3]) (k0 := v0) (me := xm121) hP_121 rfl (Or.inl rfl) ⟨rfl, by decide⟩ rfl rfl (Nat.le_of_ble_eq_true rfl) (by decide) hP_104 (Nat.le_of_ble_eq_true rfl) (fun _ => rfl) (k_f_Series_exceptionOf O f (d + 4) v0 v5 M1) (fun x3 M2 => ?_)
            refine xZ.adv (me := xm121) hP_121 1 (pc' := 73) (lv' := [(7, .int x2), (0, .ref v0), (1, .ref v1), (2, .int v2), (3, .long v3), (5, .int v5), (6, .int v6)]) (st' := [.int (-1 : Int32), .int x3]) rfl ?_
            refine xZ.ic_ne (me := xm121) hP_121 rfl (fun h5 => ?_) (fun h5 => ?_)
            · skip
              refine xZ.adv (me := xm121) hP_121 4 (pc' := 82) (lv' := [(7, .int x2), (0, .ref v0), (1, .ref v1), (2, .int v2), (3, .long v3), (5, .int v5), (6, .int v6)]) (st' := [.int (0 : Int32), .int v5, .int (0 : Int32), .int x2]) rfl ?_
              refine xZ.calls (κ := oL) (av := [.int x2, .int (0 : Int32), .int v5, .int (0 : Int32)]) (rest := []) (st' := fun x4 => [.long x4]) (me := xm121) hP_121 rfl rfl rfl (Nat.le_of_ble_eq_true rfl) (by decide) hP_122 (Nat.le_of_ble_eq_true rfl) (fun _ => rfl) (k_f_Dates_row O f (d + 4) x2 (0 : Int32) v5 (0 : Int32) M2) (fun x4 M3 => ?_)
              refine xZ.adv (me := xm121) hP_121 1 (pc' := 86) (lv' := [(3, .long x4), (7, .int x2), (0, .ref v0), (1, .ref v1), (2, .int v2), (5, .int v5), (6, .int v6)]) (st' := []) rfl ?_
              exact xZ.sub (xsc (.tail _ (.tail _ (.head _))) (xsc (.tail _ (.tail _ (.tail _ (.head _)))) (xsc (.tail _ (.tail _ (.tail _ (.tail _ (.head _))))) (xsc (.head _) (xsc (.tail _ (.tail _ (.tail _ (.tail _ (.tail _ (.head _)))))) (xsc (.tail _ (.tail _ (.tail _ (.tail _ (.tail _ (.tail _ (.head _))))))) xsn)))))) (show ([3, 7, 0, 1, 2, 5, 6] : List Nat).Nodup from by decide) (k_f_Series_firstRow_86 O f d (f_Series_firstRow_22 O f n) ih v0 v1 v2 x4 v5 v6 M3)
            · skip
              exact xZ.sub (xsc (.tail _ (.head _)) (xsc (.tail _ (.tail _ (.head _))) (xsc (.tail _ (.tail _ (.tail _ (.head _)))) (xsc (.tail _ (.tail _ (.tail _ (.tail _ (.head _))))) (xsc (.tail _ (.tail _ (.tail _ (.tail _ (.tail _ (.head _)))))) (xsc (.tail _ (.tail _ (.tail _ (.tail _ (.tail _ (.tail _ (.head _))))))) xsn)))))) (show ([7, 0, 1, 2, 3, 5, 6] : List Nat).Nodup from by decide) (k_f_Series_firstRow_86 O f d (f_Series_firstRow_22 O f n) ih v0 v1 v2 v3 v5 v6 M2)
        · skip
          exact xZ.sub (xsc (.head _) (xsc (.tail _ (.head _)) (xsc (.tail _ (.tail _ (.head _))) (xsc (.tail _ (.tail _ (.tail _ (.head _)))) xsn)))) (show ([0, 1, 2, 3, 5, 6] : List Nat).Nodup from by decide) (k_f_Series_firstRow_105 O f d v0 v1 v2 v3 M)
def f_Series_firstRow (O : Nat → Option va_E) (f : Nat) (v0 : Nat) (v1 : Nat) (v2 : Int32) (M : xM) : Option (Int64 × xM) :=
  (gR O M v0 10 6).bind fun x1 =>
  (isO O M v0 10).bind fun _ =>
  xcl (f_Series_earliestDay O f v0 v1 v2 M) fun x2 M1 =>
  (isO O M1 x1 9).bind fun _ =>
  xcl (f_Rule_next O f x1 x2 M1) fun x3 M2 =>
  f_Series_firstRow_22 O f f v0 v1 v2 (-1 : Int64) x3 (0 : Int32) M2
set_option maxRecDepth 20000 in
theorem k_f_Series_firstRow (O : Nat → Option va_E) (f d : Nat) (v0 : Nat) (v1 : Nat) (v2 : Int32) (M : xM) : xZ oL O (d + 5) 121 0 [(0, .ref v0), (1, .ref v1), (2, .int v2)] [] M (f_Series_firstRow O f v0 v1 v2 M) := by
  unfold f_Series_firstRow
  refine xZ.adv (me := xm121) hP_121 3 (pc' := 5) (lv' := [(3, .long (-1 : Int64)), (0, .ref v0), (1, .ref v1), (2, .int v2)]) (st' := [.ref v0]) rfl ?_
  refine xZ.k_gR (me := xm121) hP_121 rfl (fun x1 => ?_)
  refine xZ.adv (me := xm121) hP_121 3 (pc' := 11) (lv' := [(3, .long (-1 : Int64)), (0, .ref v0), (1, .ref v1), (2, .int v2)]) (st' := [.int v2, .ref v1, .ref v0, .ref x1]) rfl ?_
  refine xZ.callv (κ := oI) (av := [.ref v1, .int v2]) (rest := [.ref x1]) (st' := fun x2 => [.int x2, .ref x1]) (k0 := v0) (me := xm121) hP_121 rfl (Or.inl rfl) ⟨rfl, by decide⟩ rfl rfl (Nat.le_of_ble_eq_true rfl) (by decide) hP_118 (Nat.le_of_ble_eq_true rfl) (fun _ => rfl) (k_f_Series_earliestDay O f (d + 4) v0 v1 v2 M) (fun x2 M1 => ?_)
  refine xZ.callv (κ := oI) (av := [.int x2]) (rest := []) (st' := fun x3 => [.int x3]) (k0 := x1) (me := xm121) hP_121 rfl (Or.inl rfl) ⟨rfl, by decide⟩ rfl rfl (Nat.le_of_ble_eq_true rfl) (by decide) hP_45 (Nat.le_of_ble_eq_true rfl) (fun _ => rfl) (k_f_Rule_next O f (d + 0) x1 x2 M1) (fun x3 M2 => ?_)
  refine xZ.adv (me := xm121) hP_121 3 (pc' := 22) (lv' := [(6, .int (0 : Int32)), (5, .int x3), (3, .long (-1 : Int64)), (0, .ref v0), (1, .ref v1), (2, .int v2)]) (st' := []) rfl ?_
  exact xZ.sub (xsc (.tail _ (.tail _ (.tail _ (.head _)))) (xsc (.tail _ (.tail _ (.tail _ (.tail _ (.head _))))) (xsc (.tail _ (.tail _ (.tail _ (.tail _ (.tail _ (.head _)))))) (xsc (.tail _ (.tail _ (.head _))) (xsc (.tail _ (.head _)) (xsc (.head _) xsn)))))) (show ([6, 5, 3, 0, 1, 2] : List Nat).Nodup from by decide) (k_f_Series_firstRow_22 O f d f v0 v1 v2 (-1 : Int64) x3 (0 : Int32) M2)
def f_Dates_dayIn (O : Nat → Option va_E) (f : Nat) (v0 : Int64) (M : xM) : Option (Int32 × xM) :=
  some (((Int64.toInt32 (v0 >>> (Int32.toInt64 (1 : Int32) &&& 63))) &&& (262143 : Int32)), M)
set_option maxRecDepth 20000 in
theorem k_f_Dates_dayIn (O : Nat → Option va_E) (f d : Nat) (v0 : Int64) (M : xM) : xZ oI O (d + 0) 123 0 [(0, .long v0)] [] M (f_Dates_dayIn O f v0 M) := by
  unfold f_Dates_dayIn
  refine xZ.adv (me := xm123) hP_123 6 (pc' := 7) (lv' := [(0, .long v0)]) (st' := [.int ((Int64.toInt32 (v0 >>> (Int32.toInt64 (1 : Int32) &&& 63))) &&& (262143 : Int32))]) rfl ?_
  exact xZ.reti (me := xm123) hP_123 rfl rfl
def f_Calendarhall_nextDate (O : Nat → Option va_E) (f : Nat) (v0 : Nat) (v1 : Int32) (v2 : Int32) (M : xM) : Option (Int32 × xM) :=
  (isO O M v0 12).bind fun _ =>
  xcl (f_Calendarhall_seriesNumbered O f v0 v1 M) fun x1 M1 =>
  xcl (f_Calendarhall_needMinute O f v2 M1) fun _ M2 =>
  (gR O M2 v0 12 0).bind fun x3 =>
  (isO O M2 x3 4).bind fun _ =>
  xcl (f_Hall_zoneOf O f x3 x1 M2) fun x4 M3 =>
  (isO O M3 x1 10).bind fun _ =>
  xcl (f_Series_firstRow O f x1 x4 v2 M3) fun x5 M4 =>
  if (lg_cmp x5 (-1 : Int64)) = 0 then (
    some ((-1 : Int32), M4)
  ) else
  xcl (f_Dates_dayIn O f x5 M4) fun x6 M5 =>
  some (x6, M5)
set_option maxRecDepth 20000 in
theorem k_f_Calendarhall_nextDate (O : Nat → Option va_E) (f d : Nat) (v0 : Nat) (v1 : Int32) (v2 : Int32) (M : xM) : xZ oI O (d + 6) 120 0 [(0, .ref v0), (1, .int v1), (2, .int v2)] [] M (f_Calendarhall_nextDate O f v0 v1 v2 M) := by
  unfold f_Calendarhall_nextDate
  refine xZ.adv (me := xm120) hP_120 2 (pc' := 2) (lv' := [(0, .ref v0), (1, .int v1), (2, .int v2)]) (st' := [.int v1, .ref v0]) rfl ?_
  refine xZ.callv (κ := oR) (av := [.int v1]) (rest := []) (st' := fun x1 => [.ref x1]) (k0 := v0) (me := xm120) hP_120 rfl (Or.inl rfl) ⟨rfl, by decide⟩ rfl rfl (Nat.le_of_ble_eq_true rfl) (by decide) hP_79 (Nat.le_of_ble_eq_true rfl) (fun _ => rfl) (k_f_Calendarhall_seriesNumbered O f (d + 4) v0 v1 M) (fun x1 M1 => ?_)
  refine xZ.adv (me := xm120) hP_120 2 (pc' := 7) (lv' := [(3, .ref x1), (0, .ref v0), (1, .int v1), (2, .int v2)]) (st' := [.int v2]) rfl ?_
  refine xZ.calls (κ := oU) (av := [.int v2]) (rest := []) (st' := fun _ => []) (me := xm120) hP_120 rfl rfl rfl (Nat.le_of_ble_eq_true rfl) (by decide) hP_115 (Nat.le_of_ble_eq_true rfl) (fun _ => rfl) (k_f_Calendarhall_needMinute O f (d + 5) v2 M1) (fun _ M2 => ?_)
  refine xZ.adv (me := xm120) hP_120 2 (pc' := 12) (lv' := [(3, .ref x1), (0, .ref v0), (1, .int v1), (2, .int v2)]) (st' := [.ref v0, .ref x1]) rfl ?_
  refine xZ.k_gR (me := xm120) hP_120 rfl (fun x3 => ?_)
  refine xZ.adv (me := xm120) hP_120 1 (pc' := 16) (lv' := [(3, .ref x1), (0, .ref v0), (1, .int v1), (2, .int v2)]) (st' := [.ref x1, .ref x3, .ref x1]) rfl ?_
  refine xZ.callv (κ := oR) (av := [.ref x1]) (rest := [.ref x1]) (st' := fun x4 => [.ref x4, .ref x1]) (k0 := x3) (me := xm120) hP_120 rfl (Or.inl rfl) ⟨rfl, by decide⟩ rfl rfl (Nat.le_of_ble_eq_true rfl) (by decide) hP_102 (Nat.le_of_ble_eq_true rfl) (fun _ => rfl) (k_f_Hall_zoneOf O f (d + 4) x3 x1 M2) (fun x4 M3 => ?_)
  refine xZ.adv (me := xm120) hP_120 1 (pc' := 20) (lv' := [(3, .ref x1), (0, .ref v0), (1, .int v1), (2, .int v2)]) (st' := [.int v2, .ref x4, .ref x1]) rfl ?_
  refine xZ.callv (κ := oL) (av := [.ref x4, .int v2]) (rest := []) (st' := fun x5 => [.long x5]) (k0 := x1) (me := xm120) hP_120 rfl (Or.inl rfl) ⟨rfl, by decide⟩ rfl rfl (Nat.le_of_ble_eq_true rfl) (by decide) hP_121 (Nat.le_of_ble_eq_true rfl) (fun _ => rfl) (k_f_Series_firstRow O f (d + 0) x1 x4 v2 M3) (fun x5 M4 => ?_)
  refine xZ.adv (me := xm120) hP_120 4 (pc' := 31) (lv' := [(4, .long x5), (3, .ref x1), (0, .ref v0), (1, .int v1), (2, .int v2)]) (st' := [.int (lg_cmp x5 (-1 : Int64))]) rfl ?_
  refine xZ.if_ne (me := xm120) hP_120 rfl (fun h1 => ?_) (fun h1 => ?_)
  · skip
    refine xZ.adv (me := xm120) hP_120 2 (pc' := 43) (lv' := [(4, .long x5), (3, .ref x1), (0, .ref v0), (1, .int v1), (2, .int v2)]) (st' := [.int (-1 : Int32)]) rfl ?_
    exact xZ.reti (me := xm120) hP_120 rfl rfl
  · skip
    refine xZ.adv (me := xm120) hP_120 1 (pc' := 40) (lv' := [(4, .long x5), (3, .ref x1), (0, .ref v0), (1, .int v1), (2, .int v2)]) (st' := [.long x5]) rfl ?_
    refine xZ.calls (κ := oI) (av := [.long x5]) (rest := []) (st' := fun x6 => [.int x6]) (me := xm120) hP_120 rfl rfl rfl (Nat.le_of_ble_eq_true rfl) (by decide) hP_123 (Nat.le_of_ble_eq_true rfl) (fun _ => rfl) (k_f_Dates_dayIn O f (d + 5) x5 M4) (fun x6 M5 => ?_)
    exact xZ.reti (me := xm120) hP_120 rfl rfl
def f_Calendarhall_undo_87 (O : Nat → Option va_E) (f : Nat) (v0 : Nat) (M : xM) : Option (Int32 × xM) :=
  (gI O M v0 12 3).bind fun x1 =>
  some (x1, M)
set_option maxRecDepth 20000 in
theorem k_f_Calendarhall_undo_87 (O : Nat → Option va_E) (f d : Nat) (v0 : Nat) (M : xM) : xZ oI O (d + 4) 124 87 [(0, .ref v0)] [] M (f_Calendarhall_undo_87 O f v0 M) := by
  unfold f_Calendarhall_undo_87
  refine xZ.adv (me := xm124) hP_124 1 (pc' := 88) (lv' := [(0, .ref v0)]) (st' := [.ref v0]) rfl ?_
  refine xZ.k_gI (me := xm124) hP_124 rfl (fun x1 => ?_)
  exact xZ.reti (me := xm124) hP_124 rfl rfl
def f_Calendarhall_undo_74 (O : Nat → Option va_E) (f : Nat) (v0 : Nat) (s0 : Option Nat) (M : xM) : Option (Int32 × xM) :=
  Option.elim s0 (
    f_Calendarhall_undo_87 O f v0 M
  ) fun x1 =>
    (gR O M v0 12 0).bind fun x2 =>
    (isO O M x2 4).bind fun _ =>
    xcl (f_Hall_copyFrom O f x2 x1 M) fun _ M1 =>
    f_Calendarhall_undo_87 O f v0 M1
set_option maxRecDepth 20000 in
theorem k_f_Calendarhall_undo_74 (O : Nat → Option va_E) (f d : Nat) (v0 : Nat) (s0 : Option Nat) (M : xM) : xZ oI O (d + 4) 124 74 [(0, .ref v0)] [va_rf s0] M (f_Calendarhall_undo_74 O f v0 s0 M) := by
  unfold f_Calendarhall_undo_74
  refine xZ.oc (x := s0) (lvf := fun _ => [(0, .ref v0)]) (stf := fun xo => [va_rf xo]) ?_ (fun x1 => ?_)
  · skip
    refine xZ.adv (me := xm124) hP_124 2 (pc' := 76) (lv' := [(1, .null), (0, .ref v0)]) (st' := [.null]) rfl ?_
    refine xZ.one (pc' := 87) (lv' := [(1, .null), (0, .ref v0)]) (st' := []) (me := xm124) hP_124 rfl rfl ?_
    exact xZ.sub (xsc (.tail _ (.head _)) xsn) (show ([1, 0] : List Nat).Nodup from by decide) (k_f_Calendarhall_undo_87 O f d v0 M)
  · skip
    refine xZ.adv (me := xm124) hP_124 2 (pc' := 76) (lv' := [(1, .ref x1), (0, .ref v0)]) (st' := [.ref x1]) rfl ?_
    refine xZ.one (pc' := 79) (lv' := [(1, .ref x1), (0, .ref v0)]) (st' := []) (me := xm124) hP_124 rfl rfl ?_
    refine xZ.adv (me := xm124) hP_124 1 (pc' := 80) (lv' := [(1, .ref x1), (0, .ref v0)]) (st' := [.ref v0]) rfl ?_
    refine xZ.k_gR (me := xm124) hP_124 rfl (fun x2 => ?_)
    refine xZ.adv (me := xm124) hP_124 1 (pc' := 84) (lv' := [(1, .ref x1), (0, .ref v0)]) (st' := [.ref x1, .ref x2]) rfl ?_
    refine xZ.callv (κ := oU) (av := [.ref x1]) (rest := []) (st' := fun _ => []) (k0 := x2) (me := xm124) hP_124 rfl (Or.inl rfl) ⟨rfl, by decide⟩ rfl rfl (Nat.le_of_ble_eq_true rfl) (by decide) hP_24 (Nat.le_of_ble_eq_true rfl) (fun _ => rfl) (k_f_Hall_copyFrom O f (d + 0) x2 x1 M) (fun _ M1 => ?_)
    exact xZ.sub (xsc (.tail _ (.head _)) xsn) (show ([1, 0] : List Nat).Nodup from by decide) (k_f_Calendarhall_undo_87 O f d v0 M1)
def f_Calendarhall_undo_46 (O : Nat → Option va_E) (f : Nat) (v0 : Nat) (s0 : Nat) (s1 : Int32) (M : xM) : Option (Int32 × xM) :=
  (pI M s0 12 2 s1).bind fun M1 =>
  (gI O M1 v0 12 2).bind fun x1 =>
  (gR O M1 v0 12 1).bind fun x2 =>
  (aN O M1 x2).bind fun x3 =>
  if x3 ≤ x1 then (
    f_Calendarhall_undo_74 O f v0 none M1
  ) else
  (gR O M1 v0 12 1).bind fun x4 =>
  (gI O M1 v0 12 2).bind fun x5 =>
  (aR O M1 x4 x5).bind fun x6 =>
  f_Calendarhall_undo_74 O f v0 (some x6) M1
set_option maxRecDepth 20000 in
theorem k_f_Calendarhall_undo_46 (O : Nat → Option va_E) (f d : Nat) (v0 : Nat) (s0 : Nat) (s1 : Int32) (M : xM) : xZ oI O (d + 4) 124 46 [(0, .ref v0)] [.int s1, .ref s0] M (f_Calendarhall_undo_46 O f v0 s0 s1 M) := by
  unfold f_Calendarhall_undo_46
  refine xZ.k_pI (me := xm124) hP_124 rfl (fun M1 => ?_)
  refine xZ.adv (me := xm124) hP_124 1 (pc' := 50) (lv' := [(0, .ref v0)]) (st' := [.ref v0]) rfl ?_
  refine xZ.k_gI (me := xm124) hP_124 rfl (fun x1 => ?_)
  refine xZ.adv (me := xm124) hP_124 1 (pc' := 54) (lv' := [(0, .ref v0)]) (st' := [.ref v0, .int x1]) rfl ?_
  refine xZ.k_gR (me := xm124) hP_124 rfl (fun x2 => ?_)
  refine xZ.k_aN (me := xm124) hP_124 rfl (fun x3 => ?_)
  refine xZ.ic_ge (me := xm124) hP_124 rfl (fun h1 => ?_) (fun h1 => ?_)
  · skip
    refine xZ.adv (me := xm124) hP_124 1 (pc' := 74) (lv' := [(0, .ref v0)]) (st' := [.null]) rfl ?_
    exact (k_f_Calendarhall_undo_74 O f d v0 none M1)
  · skip
    refine xZ.adv (me := xm124) hP_124 1 (pc' := 62) (lv' := [(0, .ref v0)]) (st' := [.ref v0]) rfl ?_
    refine xZ.k_gR (me := xm124) hP_124 rfl (fun x4 => ?_)
    refine xZ.adv (me := xm124) hP_124 1 (pc' := 66) (lv' := [(0, .ref v0)]) (st' := [.ref v0, .ref x4]) rfl ?_
    refine xZ.k_gI (me := xm124) hP_124 rfl (fun x5 => ?_)
    refine xZ.k_aR (me := xm124) hP_124 rfl (fun x6 => ?_)
    refine xZ.adv (me := xm124) hP_124 1 (pc' := 74) (lv' := [(0, .ref v0)]) (st' := [.ref x6]) rfl ?_
    exact (k_f_Calendarhall_undo_74 O f d v0 (some x6) M1)
def f_Calendarhall_undo (O : Nat → Option va_E) (f : Nat) (v0 : Nat) (M : xM) : Option (Int32 × xM) :=
  (gI O M v0 12 3).bind fun x1 =>
  if (1 : Int32) ≤ x1 then (
    (gI O M v0 12 3).bind fun x2 =>
    (pI M v0 12 3 (x2 - (1 : Int32))).bind fun M1 =>
    (gI O M1 v0 12 2).bind fun x3 =>
    if (1 : Int32) ≤ x3 then (
      (gI O M1 v0 12 2).bind fun x4 =>
      f_Calendarhall_undo_46 O f v0 v0 (x4 - (1 : Int32)) M1
    ) else
    f_Calendarhall_undo_46 O f v0 v0 (7 : Int32) M1
  ) else
  none
set_option maxRecDepth 20000 in
theorem k_f_Calendarhall_undo (O : Nat → Option va_E) (f d : Nat) (v0 : Nat) (M : xM) : xZ oI O (d + 4) 124 0 [(0, .ref v0)] [] M (f_Calendarhall_undo O f v0 M) := by
  unfold f_Calendarhall_undo
  refine xZ.adv (me := xm124) hP_124 1 (pc' := 1) (lv' := [(0, .ref v0)]) (st' := [.ref v0]) rfl ?_
  refine xZ.k_gI (me := xm124) hP_124 rfl (fun x1 => ?_)
  refine xZ.adv (me := xm124) hP_124 1 (pc' := 5) (lv' := [(0, .ref v0)]) (st' := [.int (1 : Int32), .int x1]) rfl ?_
  refine xZ.ic_ge (me := xm124) hP_124 rfl (fun h1 => ?_) (fun h1 => ?_)
  · skip
    refine xZ.adv (me := xm124) hP_124 2 (pc' := 18) (lv' := [(0, .ref v0)]) (st' := [.ref v0, .ref v0]) rfl ?_
    refine xZ.k_gI (me := xm124) hP_124 rfl (fun x2 => ?_)
    refine xZ.adv (me := xm124) hP_124 2 (pc' := 23) (lv' := [(0, .ref v0)]) (st' := [.int (x2 - (1 : Int32)), .ref v0]) rfl ?_
    refine xZ.k_pI (me := xm124) hP_124 rfl (fun M1 => ?_)
    refine xZ.adv (me := xm124) hP_124 2 (pc' := 28) (lv' := [(0, .ref v0)]) (st' := [.ref v0, .ref v0]) rfl ?_
    refine xZ.k_gI (me := xm124) hP_124 rfl (fun x3 => ?_)
    refine xZ.adv (me := xm124) hP_124 1 (pc' := 32) (lv' := [(0, .ref v0)]) (st' := [.int (1 : Int32), .int x3, .ref v0]) rfl ?_
    refine xZ.ic_ge (me := xm124) hP_124 rfl (fun h2 => ?_) (fun h2 => ?_)
    · skip
      refine xZ.adv (me := xm124) hP_124 1 (pc' := 41) (lv' := [(0, .ref v0)]) (st' := [.ref v0, .ref v0]) rfl ?_
      refine xZ.k_gI (me := xm124) hP_124 rfl (fun x4 => ?_)
      refine xZ.adv (me := xm124) hP_124 2 (pc' := 46) (lv' := [(0, .ref v0)]) (st' := [.int (x4 - (1 : Int32)), .ref v0]) rfl ?_
      exact (k_f_Calendarhall_undo_46 O f d v0 v0 (x4 - (1 : Int32)) M1)
    · skip
      refine xZ.adv (me := xm124) hP_124 2 (pc' := 46) (lv' := [(0, .ref v0)]) (st' := [.int (7 : Int32), .ref v0]) rfl ?_
      exact (k_f_Calendarhall_undo_46 O f d v0 v0 (7 : Int32) M1)
  · skip
    exact xZ.no
def f_Law_areMoved_161 (O : Nat → Option va_E) (f : Nat) (K85 : Nat → Nat → Int32 → Nat → Int32 → Int32 → Nat → Nat → Int32 → Int32 → xM → Option (Int32 × xM)) : Nat → Nat → Nat → Int32 → Nat → Int32 → Int32 → Nat → Nat → Int32 → Int32 → Int32 → xM → Option (Int32 × xM)
  | 0, _, _, _, _, _, _, _, _, _, _, _, _ => none
  | n + 1, v0, v1, v2, v3, v4, v5, v6, v7, v8, v9, v11, M =>
    if v4 ≤ v11 then (
      K85 v0 v1 v2 v3 v4 v5 v6 v7 v8 (v9 + (1 : Int32)) M
    ) else
    (aI O M v3 v11).bind fun x1 =>
    (isO O M v0 12).bind fun _ =>
    xcl (f_Calendarhall_begin O f v0 v2 x1 M) fun x2 M1 =>
    (aI O M1 v7 v11).bind fun x3 =>
    if x2 = x3 then (
      f_Law_areMoved_161 O f K85 n v0 v1 v2 v3 v4 v5 v6 v7 v8 v9 (v11 + (1 : Int32)) M1
    ) else
    some ((0 : Int32), M1)
set_option maxRecDepth 20000 in
theorem k_f_Law_areMoved_161 (O : Nat → Option va_E) (f d : Nat) (K85 : Nat → Nat → Int32 → Nat → Int32 → Int32 → Nat → Nat → Int32 → Int32 → xM → Option (Int32 × xM)) (hK85 : ∀ (v0 : Nat) (v1 : Nat) (v2 : Int32) (v3 : Nat) (v4 : Int32) (v5 : Int32) (v6 : Nat) (v7 : Nat) (v8 : Int32) (v9 : Int32) M, xZ oI O (d + 7) 97 85 [(0, .ref v0), (1, .ref v1), (2, .int v2), (3, .ref v3), (4, .int v4), (5, .int v5), (6, .ref v6), (7, .ref v7), (8, .int v8), (9, .int v9)] [] M (K85 v0 v1 v2 v3 v4 v5 v6 v7 v8 v9 M)) : ∀ (n : Nat) (v0 : Nat) (v1 : Nat) (v2 : Int32) (v3 : Nat) (v4 : Int32) (v5 : Int32) (v6 : Nat) (v7 : Nat) (v8 : Int32) (v9 : Int32) (v11 : Int32) (M : xM), xZ oI O (d + 7) 97 161 [(0, .ref v0), (1, .ref v1), (2, .int v2), (3, .ref v3), (4, .int v4), (5, .int v5), (6, .ref v6), (7, .ref v7), (8, .int v8), (9, .int v9), (11, .int v11)] [] M (f_Law_areMoved_161 O f K85 n v0 v1 v2 v3 v4 v5 v6 v7 v8 v9 v11 M) := by
  intro n
  induction n with
  | zero =>
    intro v0 v1 v2 v3 v4 v5 v6 v7 v8 v9 v11 M
    exact xZ.no
  | succ n ih =>
    intro v0 v1 v2 v3 v4 v5 v6 v7 v8 v9 v11 M
    unfold f_Law_areMoved_161
    refine xZ.adv (me := xm97) hP_97 2 (pc' := 165) (lv' := [(0, .ref v0), (1, .ref v1), (2, .int v2), (3, .ref v3), (4, .int v4), (5, .int v5), (6, .ref v6), (7, .ref v7), (8, .int v8), (9, .int v9), (11, .int v11)]) (st' := [.int v4, .int v11]) rfl ?_
    refine xZ.ic_ge (me := xm97) hP_97 rfl (fun h1 => ?_) (fun h1 => ?_)
    · skip
      refine xZ.adv (me := xm97) hP_97 2 (pc' := 85) (lv' := [(9, .int (v9 + (1 : Int32))), (0, .ref v0), (1, .ref v1), (2, .int v2), (3, .ref v3), (4, .int v4), (5, .int v5), (6, .ref v6), (7, .ref v7), (8, .int v8), (11, .int v11)]) (st' := []) rfl ?_
      exact xZ.sub (xsc (.tail _ (.head _)) (xsc (.tail _ (.tail _ (.head _))) (xsc (.tail _ (.tail _ (.tail _ (.head _)))) (xsc (.tail _ (.tail _ (.tail _ (.tail _ (.head _))))) (xsc (.tail _ (.tail _ (.tail _ (.tail _ (.tail _ (.head _)))))) (xsc (.tail _ (.tail _ (.tail _ (.tail _ (.tail _ (.tail _ (.head _))))))) (xsc (.tail _ (.tail _ (.tail _ (.tail _ (.tail _ (.tail _ (.tail _ (.head _)))))))) (xsc (.tail _ (.tail _ (.tail _ (.tail _ (.tail _ (.tail _ (.tail _ (.tail _ (.head _))))))))) (xsc (.tail _ (.tail _ (.tail _ (.tail _ (.tail _ (.tail _ (.tail _ (.tail _ (.tail _ (.head _)))))))))) (xsc (.head _) xsn)))))))))) (show ([9, 0, 1, 2, 3, 4, 5, 6, 7, 8, 11] : List Nat).Nodup from by decide) (hK85 v0 v1 v2 v3 v4 v5 v6 v7 v8 (v9 + (1 : Int32)) M)
    · skip
      refine xZ.adv (me := xm97) hP_97 4 (pc' := 173) (lv' := [(0, .ref v0), (1, .ref v1), (2, .int v2), (3, .ref v3), (4, .int v4), (5, .int v5), (6, .ref v6), (7, .ref v7), (8, .int v8), (9, .int v9), (11, .int v11)]) (st' := [.int v11, .ref v3, .int v2, .ref v0]) rfl ?_
      refine xZ.k_aI (me := xm97) hP_97 rfl (fun x1 => ?_)
      refine xZ.callv (κ := oI) (av := [.int v2, .int x1]) (rest := []) (st' := fun x2 => [.int x2]) (k0 := v0) (me := xm97) hP_97 rfl (Or.inl rfl) ⟨rfl, by decide⟩ rfl rfl (Nat.le_of_ble_eq_true rfl) (by decide) hP_98 (Nat.le_of_ble_eq_true rfl) (fun _ => rfl) (k_f_Calendarhall_begin O f (d + 1) v0 v2 x1 M) (fun x2 M1 => ?_)
      refine xZ.adv (me := xm97) hP_97 2 (pc' := 181) (lv' := [(0, .ref v0), (1, .ref v1), (2, .int v2), (3, .ref v3), (4, .int v4), (5, .int v5), (6, .ref v6), (7, .ref v7), (8, .int v8), (9, .int v9), (11, .int v11)]) (st' := [.int v11, .ref v7, .int x2]) rfl ?_
      refine xZ.k_aI (me := xm97) hP_97 rfl (fun x3 => ?_)
      refine xZ.ic_eq (me := xm97) hP_97 rfl (fun h2 => ?_) (fun h2 => ?_)
      · skip
        refine xZ.adv (me := xm97) hP_97 2 (pc' := 161) (lv' := [(11, .int (v11 + (1 : Int32))), (0, .ref v0), (1, .ref v1), (2, .int v2), (3, .ref v3), (4, .int v4), (5, .int v5), (6, .ref v6), (7, .ref v7), (8, .int v8), (9, .int v9)]) (st' := []) rfl ?_
        exact xZ.sub (xsc (.tail _ (.head _)) (xsc (.tail _ (.tail _ (.head _))) (xsc (.tail _ (.tail _ (.tail _ (.head _)))) (xsc (.tail _ (.tail _ (.tail _ (.tail _ (.head _))))) (xsc (.tail _ (.tail _ (.tail _ (.tail _ (.tail _ (.head _)))))) (xsc (.tail _ (.tail _ (.tail _ (.tail _ (.tail _ (.tail _ (.head _))))))) (xsc (.tail _ (.tail _ (.tail _ (.tail _ (.tail _ (.tail _ (.tail _ (.head _)))))))) (xsc (.tail _ (.tail _ (.tail _ (.tail _ (.tail _ (.tail _ (.tail _ (.tail _ (.head _))))))))) (xsc (.tail _ (.tail _ (.tail _ (.tail _ (.tail _ (.tail _ (.tail _ (.tail _ (.tail _ (.head _)))))))))) (xsc (.tail _ (.tail _ (.tail _ (.tail _ (.tail _ (.tail _ (.tail _ (.tail _ (.tail _ (.tail _ (.head _))))))))))) (xsc (.head _) xsn))))))))))) (show ([11, 0, 1, 2, 3, 4, 5, 6, 7, 8, 9] : List Nat).Nodup from by decide) (ih v0 v1 v2 v3 v4 v5 v6 v7 v8 v9 (v11 + (1 : Int32)) M1)
      · skip
        refine xZ.adv (me := xm97) hP_97 1 (pc' := 186) (lv' := [(0, .ref v0), (1, .ref v1), (2, .int v2), (3, .ref v3), (4, .int v4), (5, .int v5), (6, .ref v6), (7, .ref v7), (8, .int v8), (9, .int v9), (11, .int v11)]) (st' := [.int (0 : Int32)]) rfl ?_
        exact xZ.rete (me := xm97) hP_97 rfl rfl rfl
def f_Law_areMoved_158 (O : Nat → Option va_E) (f : Nat) (K85 : Nat → Nat → Int32 → Nat → Int32 → Int32 → Nat → Nat → Int32 → Int32 → xM → Option (Int32 × xM)) (v0 : Nat) (v1 : Nat) (v2 : Int32) (v3 : Nat) (v4 : Int32) (v5 : Int32) (v6 : Nat) (v7 : Nat) (v8 : Int32) (v9 : Int32) (M : xM) : Option (Int32 × xM) :=
  f_Law_areMoved_161 O f K85 f v0 v1 v2 v3 v4 v5 v6 v7 v8 v9 (0 : Int32) M
set_option maxRecDepth 20000 in
theorem k_f_Law_areMoved_158 (O : Nat → Option va_E) (f d : Nat) (K85 : Nat → Nat → Int32 → Nat → Int32 → Int32 → Nat → Nat → Int32 → Int32 → xM → Option (Int32 × xM)) (hK85 : ∀ (v0 : Nat) (v1 : Nat) (v2 : Int32) (v3 : Nat) (v4 : Int32) (v5 : Int32) (v6 : Nat) (v7 : Nat) (v8 : Int32) (v9 : Int32) M, xZ oI O (d + 7) 97 85 [(0, .ref v0), (1, .ref v1), (2, .int v2), (3, .ref v3), (4, .int v4), (5, .int v5), (6, .ref v6), (7, .ref v7), (8, .int v8), (9, .int v9)] [] M (K85 v0 v1 v2 v3 v4 v5 v6 v7 v8 v9 M)) (v0 : Nat) (v1 : Nat) (v2 : Int32) (v3 : Nat) (v4 : Int32) (v5 : Int32) (v6 : Nat) (v7 : Nat) (v8 : Int32) (v9 : Int32) (M : xM) : xZ oI O (d + 7) 97 158 [(0, .ref v0), (1, .ref v1), (2, .int v2), (3, .ref v3), (4, .int v4), (5, .int v5), (6, .ref v6), (7, .ref v7), (8, .int v8), (9, .int v9)] [] M (f_Law_areMoved_158 O f K85 v0 v1 v2 v3 v4 v5 v6 v7 v8 v9 M) := by
  unfold f_Law_areMoved_158
  refine xZ.adv (me := xm97) hP_97 2 (pc' := 161) (lv' := [(11, .int (0 : Int32)), (0, .ref v0), (1, .ref v1), (2, .int v2), (3, .ref v3), (4, .int v4), (5, .int v5), (6, .ref v6), (7, .ref v7), (8, .int v8), (9, .int v9)]) (st' := []) rfl ?_
  exact xZ.sub (xsc (.tail _ (.head _)) (xsc (.tail _ (.tail _ (.head _))) (xsc (.tail _ (.tail _ (.tail _ (.head _)))) (xsc (.tail _ (.tail _ (.tail _ (.tail _ (.head _))))) (xsc (.tail _ (.tail _ (.tail _ (.tail _ (.tail _ (.head _)))))) (xsc (.tail _ (.tail _ (.tail _ (.tail _ (.tail _ (.tail _ (.head _))))))) (xsc (.tail _ (.tail _ (.tail _ (.tail _ (.tail _ (.tail _ (.tail _ (.head _)))))))) (xsc (.tail _ (.tail _ (.tail _ (.tail _ (.tail _ (.tail _ (.tail _ (.tail _ (.head _))))))))) (xsc (.tail _ (.tail _ (.tail _ (.tail _ (.tail _ (.tail _ (.tail _ (.tail _ (.tail _ (.head _)))))))))) (xsc (.tail _ (.tail _ (.tail _ (.tail _ (.tail _ (.tail _ (.tail _ (.tail _ (.tail _ (.tail _ (.head _))))))))))) (xsc (.head _) xsn))))))))))) (show ([11, 0, 1, 2, 3, 4, 5, 6, 7, 8, 9] : List Nat).Nodup from by decide) (k_f_Law_areMoved_161 O f d K85 hK85 f v0 v1 v2 v3 v4 v5 v6 v7 v8 v9 (0 : Int32) M)
def f_Law_areMoved_375 (O : Nat → Option va_E) (f : Nat) : Nat → Nat → Int32 → Nat → Int32 → Nat → Int32 → xM → Option (Int32 × xM)
  | 0, _, _, _, _, _, _, _ => none
  | n + 1, v0, v2, v3, v4, v6, v13, M =>
    if v4 ≤ v13 then (
      some ((1 : Int32), M)
    ) else
    (aI O M v3 v13).bind fun x1 =>
    (isO O M v0 12).bind fun _ =>
    xcl (f_Calendarhall_begin O f v0 v2 x1 M) fun x2 M1 =>
    (aI O M1 v6 v13).bind fun x3 =>
    if x2 = x3 then (
      f_Law_areMoved_375 O f n v0 v2 v3 v4 v6 (v13 + (1 : Int32)) M1
    ) else
    some ((0 : Int32), M1)
set_option maxRecDepth 20000 in
theorem k_f_Law_areMoved_375 (O : Nat → Option va_E) (f d : Nat) : ∀ (n : Nat) (v0 : Nat) (v2 : Int32) (v3 : Nat) (v4 : Int32) (v6 : Nat) (v13 : Int32) (M : xM), xZ oI O (d + 7) 97 375 [(0, .ref v0), (2, .int v2), (3, .ref v3), (4, .int v4), (6, .ref v6), (13, .int v13)] [] M (f_Law_areMoved_375 O f n v0 v2 v3 v4 v6 v13 M) := by
  intro n
  induction n with
  | zero =>
    intro v0 v2 v3 v4 v6 v13 M
    exact xZ.no
  | succ n ih =>
    intro v0 v2 v3 v4 v6 v13 M
    unfold f_Law_areMoved_375
    refine xZ.adv (me := xm97) hP_97 2 (pc' := 379) (lv' := [(0, .ref v0), (2, .int v2), (3, .ref v3), (4, .int v4), (6, .ref v6), (13, .int v13)]) (st' := [.int v4, .int v13]) rfl ?_
    refine xZ.ic_ge (me := xm97) hP_97 rfl (fun h1 => ?_) (fun h1 => ?_)
    · skip
      refine xZ.adv (me := xm97) hP_97 1 (pc' := 408) (lv' := [(0, .ref v0), (2, .int v2), (3, .ref v3), (4, .int v4), (6, .ref v6), (13, .int v13)]) (st' := [.int (1 : Int32)]) rfl ?_
      exact xZ.rete (me := xm97) hP_97 rfl rfl rfl
    · skip
      refine xZ.adv (me := xm97) hP_97 4 (pc' := 387) (lv' := [(0, .ref v0), (2, .int v2), (3, .ref v3), (4, .int v4), (6, .ref v6), (13, .int v13)]) (st' := [.int v13, .ref v3, .int v2, .ref v0]) rfl ?_
      refine xZ.k_aI (me := xm97) hP_97 rfl (fun x1 => ?_)
      refine xZ.callv (κ := oI) (av := [.int v2, .int x1]) (rest := []) (st' := fun x2 => [.int x2]) (k0 := v0) (me := xm97) hP_97 rfl (Or.inl rfl) ⟨rfl, by decide⟩ rfl rfl (Nat.le_of_ble_eq_true rfl) (by decide) hP_98 (Nat.le_of_ble_eq_true rfl) (fun _ => rfl) (k_f_Calendarhall_begin O f (d + 1) v0 v2 x1 M) (fun x2 M1 => ?_)
      refine xZ.adv (me := xm97) hP_97 2 (pc' := 395) (lv' := [(0, .ref v0), (2, .int v2), (3, .ref v3), (4, .int v4), (6, .ref v6), (13, .int v13)]) (st' := [.int v13, .ref v6, .int x2]) rfl ?_
      refine xZ.k_aI (me := xm97) hP_97 rfl (fun x3 => ?_)
      refine xZ.ic_eq (me := xm97) hP_97 rfl (fun h2 => ?_) (fun h2 => ?_)
      · skip
        refine xZ.adv (me := xm97) hP_97 2 (pc' := 375) (lv' := [(13, .int (v13 + (1 : Int32))), (0, .ref v0), (2, .int v2), (3, .ref v3), (4, .int v4), (6, .ref v6)]) (st' := []) rfl ?_
        exact xZ.sub (xsc (.tail _ (.head _)) (xsc (.tail _ (.tail _ (.head _))) (xsc (.tail _ (.tail _ (.tail _ (.head _)))) (xsc (.tail _ (.tail _ (.tail _ (.tail _ (.head _))))) (xsc (.tail _ (.tail _ (.tail _ (.tail _ (.tail _ (.head _)))))) (xsc (.head _) xsn)))))) (show ([13, 0, 2, 3, 4, 6] : List Nat).Nodup from by decide) (ih v0 v2 v3 v4 v6 (v13 + (1 : Int32)) M1)
      · skip
        refine xZ.adv (me := xm97) hP_97 1 (pc' := 400) (lv' := [(0, .ref v0), (2, .int v2), (3, .ref v3), (4, .int v4), (6, .ref v6), (13, .int v13)]) (st' := [.int (0 : Int32)]) rfl ?_
        exact xZ.rete (me := xm97) hP_97 rfl rfl rfl
def f_Law_areMoved_354 (O : Nat → Option va_E) (f : Nat) : Nat → Nat → Int32 → Nat → Int32 → Nat → Int32 → Int32 → xM → Option (Int32 × xM)
  | 0, _, _, _, _, _, _, _, _ => none
  | n + 1, v0, v2, v3, v4, v6, v8, v13, M =>
    if v8 ≤ v13 then (
      f_Law_areMoved_375 O f f v0 v2 v3 v4 v6 (0 : Int32) M
    ) else
    (isO O M v0 12).bind fun _ =>
    xcl (f_Calendarhall_undo O f v0 M) fun x1 M1 =>
    f_Law_areMoved_354 O f n v0 v2 v3 v4 v6 v8 (v13 + (1 : Int32)) M1
set_option maxRecDepth 20000 in
theorem k_f_Law_areMoved_354 (O : Nat → Option va_E) (f d : Nat) : ∀ (n : Nat) (v0 : Nat) (v2 : Int32) (v3 : Nat) (v4 : Int32) (v6 : Nat) (v8 : Int32) (v13 : Int32) (M : xM), xZ oI O (d + 7) 97 354 [(0, .ref v0), (2, .int v2), (3, .ref v3), (4, .int v4), (6, .ref v6), (8, .int v8), (13, .int v13)] [] M (f_Law_areMoved_354 O f n v0 v2 v3 v4 v6 v8 v13 M) := by
  intro n
  induction n with
  | zero =>
    intro v0 v2 v3 v4 v6 v8 v13 M
    exact xZ.no
  | succ n ih =>
    intro v0 v2 v3 v4 v6 v8 v13 M
    unfold f_Law_areMoved_354
    refine xZ.adv (me := xm97) hP_97 2 (pc' := 358) (lv' := [(0, .ref v0), (2, .int v2), (3, .ref v3), (4, .int v4), (6, .ref v6), (8, .int v8), (13, .int v13)]) (st' := [.int v8, .int v13]) rfl ?_
    refine xZ.ic_ge (me := xm97) hP_97 rfl (fun h1 => ?_) (fun h1 => ?_)
    · skip
      refine xZ.adv (me := xm97) hP_97 2 (pc' := 375) (lv' := [(13, .int (0 : Int32)), (0, .ref v0), (2, .int v2), (3, .ref v3), (4, .int v4), (6, .ref v6), (8, .int v8)]) (st' := []) rfl ?_
      exact xZ.sub (xsc (.tail _ (.head _)) (xsc (.tail _ (.tail _ (.head _))) (xsc (.tail _ (.tail _ (.tail _ (.head _)))) (xsc (.tail _ (.tail _ (.tail _ (.tail _ (.head _))))) (xsc (.tail _ (.tail _ (.tail _ (.tail _ (.tail _ (.head _)))))) (xsc (.head _) xsn)))))) (show ([13, 0, 2, 3, 4, 6, 8] : List Nat).Nodup from by decide) (k_f_Law_areMoved_375 O f d f v0 v2 v3 v4 v6 (0 : Int32) M)
    · skip
      refine xZ.adv (me := xm97) hP_97 1 (pc' := 362) (lv' := [(0, .ref v0), (2, .int v2), (3, .ref v3), (4, .int v4), (6, .ref v6), (8, .int v8), (13, .int v13)]) (st' := [.ref v0]) rfl ?_
      refine xZ.callv (κ := oI) (av := []) (rest := []) (st' := fun x1 => [.int x1]) (k0 := v0) (me := xm97) hP_97 rfl (Or.inl rfl) ⟨rfl, by decide⟩ rfl rfl (Nat.le_of_ble_eq_true rfl) (by decide) hP_124 (Nat.le_of_ble_eq_true rfl) (fun _ => rfl) (k_f_Calendarhall_undo O f (d + 2) v0 M) (fun x1 M1 => ?_)
      refine xZ.adv (me := xm97) hP_97 3 (pc' := 354) (lv' := [(13, .int (v13 + (1 : Int32))), (0, .ref v0), (2, .int v2), (3, .ref v3), (4, .int v4), (6, .ref v6), (8, .int v8)]) (st' := []) rfl ?_
      exact xZ.sub (xsc (.tail _ (.head _)) (xsc (.tail _ (.tail _ (.head _))) (xsc (.tail _ (.tail _ (.tail _ (.head _)))) (xsc (.tail _ (.tail _ (.tail _ (.tail _ (.head _))))) (xsc (.tail _ (.tail _ (.tail _ (.tail _ (.tail _ (.head _)))))) (xsc (.tail _ (.tail _ (.tail _ (.tail _ (.tail _ (.tail _ (.head _))))))) (xsc (.head _) xsn))))))) (show ([13, 0, 2, 3, 4, 6, 8] : List Nat).Nodup from by decide) (ih v0 v2 v3 v4 v6 v8 (v13 + (1 : Int32)) M1)
def f_Law_areMoved_351 (O : Nat → Option va_E) (f : Nat) (v0 : Nat) (v2 : Int32) (v3 : Nat) (v4 : Int32) (v6 : Nat) (v8 : Int32) (M : xM) : Option (Int32 × xM) :=
  f_Law_areMoved_354 O f f v0 v2 v3 v4 v6 v8 (0 : Int32) M
set_option maxRecDepth 20000 in
theorem k_f_Law_areMoved_351 (O : Nat → Option va_E) (f d : Nat) (v0 : Nat) (v2 : Int32) (v3 : Nat) (v4 : Int32) (v6 : Nat) (v8 : Int32) (M : xM) : xZ oI O (d + 7) 97 351 [(0, .ref v0), (2, .int v2), (3, .ref v3), (4, .int v4), (6, .ref v6), (8, .int v8)] [] M (f_Law_areMoved_351 O f v0 v2 v3 v4 v6 v8 M) := by
  unfold f_Law_areMoved_351
  refine xZ.adv (me := xm97) hP_97 2 (pc' := 354) (lv' := [(13, .int (0 : Int32)), (0, .ref v0), (2, .int v2), (3, .ref v3), (4, .int v4), (6, .ref v6), (8, .int v8)]) (st' := []) rfl ?_
  exact xZ.sub (xsc (.tail _ (.head _)) (xsc (.tail _ (.tail _ (.head _))) (xsc (.tail _ (.tail _ (.tail _ (.head _)))) (xsc (.tail _ (.tail _ (.tail _ (.tail _ (.head _))))) (xsc (.tail _ (.tail _ (.tail _ (.tail _ (.tail _ (.head _)))))) (xsc (.tail _ (.tail _ (.tail _ (.tail _ (.tail _ (.tail _ (.head _))))))) (xsc (.head _) xsn))))))) (show ([13, 0, 2, 3, 4, 6, 8] : List Nat).Nodup from by decide) (k_f_Law_areMoved_354 O f d f v0 v2 v3 v4 v6 v8 (0 : Int32) M)
def f_Law_areMoved_329 (O : Nat → Option va_E) (f : Nat) (v0 : Nat) (v2 : Int32) (v3 : Nat) (v4 : Int32) (v6 : Nat) (v8 : Int32) (v9 : Int32) (v12 : Int32) (M : xM) : Option (Int32 × xM) :=
  if v12 = (-1 : Int32) then (
    f_Law_areMoved_351 O f v0 v2 v3 v4 v6 v8 M
  ) else
  (isO O M v0 12).bind fun _ =>
  xcl (f_Calendarhall_nextDate O f v0 v2 v9 M) fun x1 M1 =>
  (aI O M1 v3 v12).bind fun x2 =>
  if x1 = x2 then (
    f_Law_areMoved_351 O f v0 v2 v3 v4 v6 v8 M1
  ) else
  some ((0 : Int32), M1)
set_option maxRecDepth 20000 in
theorem k_f_Law_areMoved_329 (O : Nat → Option va_E) (f d : Nat) (v0 : Nat) (v2 : Int32) (v3 : Nat) (v4 : Int32) (v6 : Nat) (v8 : Int32) (v9 : Int32) (v12 : Int32) (M : xM) : xZ oI O (d + 7) 97 329 [(0, .ref v0), (2, .int v2), (3, .ref v3), (4, .int v4), (6, .ref v6), (8, .int v8), (9, .int v9), (12, .int v12)] [] M (f_Law_areMoved_329 O f v0 v2 v3 v4 v6 v8 v9 v12 M) := by
  unfold f_Law_areMoved_329
  refine xZ.adv (me := xm97) hP_97 2 (pc' := 332) (lv' := [(0, .ref v0), (2, .int v2), (3, .ref v3), (4, .int v4), (6, .ref v6), (8, .int v8), (9, .int v9), (12, .int v12)]) (st' := [.int (-1 : Int32), .int v12]) rfl ?_
  refine xZ.ic_eq (me := xm97) hP_97 rfl (fun h1 => ?_) (fun h1 => ?_)
  · skip
    exact xZ.sub (xsc (.head _) (xsc (.tail _ (.head _)) (xsc (.tail _ (.tail _ (.head _))) (xsc (.tail _ (.tail _ (.tail _ (.head _)))) (xsc (.tail _ (.tail _ (.tail _ (.tail _ (.head _))))) (xsc (.tail _ (.tail _ (.tail _ (.tail _ (.tail _ (.head _)))))) xsn)))))) (show ([0, 2, 3, 4, 6, 8, 9, 12] : List Nat).Nodup from by decide) (k_f_Law_areMoved_351 O f d v0 v2 v3 v4 v6 v8 M)
  · skip
    refine xZ.adv (me := xm97) hP_97 3 (pc' := 339) (lv' := [(0, .ref v0), (2, .int v2), (3, .ref v3), (4, .int v4), (6, .ref v6), (8, .int v8), (9, .int v9), (12, .int v12)]) (st' := [.int v9, .int v2, .ref v0]) rfl ?_
    refine xZ.callv (κ := oI) (av := [.int v2, .int v9]) (rest := []) (st' := fun x1 => [.int x1]) (k0 := v0) (me := xm97) hP_97 rfl (Or.inl rfl) ⟨rfl, by decide⟩ rfl rfl (Nat.le_of_ble_eq_true rfl) (by decide) hP_120 (Nat.le_of_ble_eq_true rfl) (fun _ => rfl) (k_f_Calendarhall_nextDate O f (d + 0) v0 v2 v9 M) (fun x1 M1 => ?_)
    refine xZ.adv (me := xm97) hP_97 2 (pc' := 345) (lv' := [(0, .ref v0), (2, .int v2), (3, .ref v3), (4, .int v4), (6, .ref v6), (8, .int v8), (9, .int v9), (12, .int v12)]) (st' := [.int v12, .ref v3, .int x1]) rfl ?_
    refine xZ.k_aI (me := xm97) hP_97 rfl (fun x2 => ?_)
    refine xZ.ic_eq (me := xm97) hP_97 rfl (fun h2 => ?_) (fun h2 => ?_)
    · skip
      exact xZ.sub (xsc (.head _) (xsc (.tail _ (.head _)) (xsc (.tail _ (.tail _ (.head _))) (xsc (.tail _ (.tail _ (.tail _ (.head _)))) (xsc (.tail _ (.tail _ (.tail _ (.tail _ (.head _))))) (xsc (.tail _ (.tail _ (.tail _ (.tail _ (.tail _ (.head _)))))) xsn)))))) (show ([0, 2, 3, 4, 6, 8, 9, 12] : List Nat).Nodup from by decide) (k_f_Law_areMoved_351 O f d v0 v2 v3 v4 v6 v8 M1)
    · skip
      refine xZ.adv (me := xm97) hP_97 1 (pc' := 350) (lv' := [(0, .ref v0), (2, .int v2), (3, .ref v3), (4, .int v4), (6, .ref v6), (8, .int v8), (9, .int v9), (12, .int v12)]) (st' := [.int (0 : Int32)]) rfl ?_
      exact xZ.rete (me := xm97) hP_97 rfl rfl rfl
def f_Law_areMoved_298 (O : Nat → Option va_E) (f : Nat) (K246 : Nat → Int32 → Nat → Int32 → Nat → Nat → Int32 → Int32 → Int32 → Int32 → Int32 → Int32 → xM → Option (Int32 × xM)) (v0 : Nat) (v2 : Int32) (v3 : Nat) (v4 : Int32) (v6 : Nat) (v7 : Nat) (v8 : Int32) (v9 : Int32) (v10 : Int32) (v11 : Int32) (v13 : Int32) (M : xM) : Option (Int32 × xM) :=
  K246 v0 v2 v3 v4 v6 v7 v8 v9 v10 v11 v13 (v13 + (1 : Int32)) M
set_option maxRecDepth 20000 in
theorem k_f_Law_areMoved_298 (O : Nat → Option va_E) (f d : Nat) (K246 : Nat → Int32 → Nat → Int32 → Nat → Nat → Int32 → Int32 → Int32 → Int32 → Int32 → Int32 → xM → Option (Int32 × xM)) (hK246 : ∀ (v0 : Nat) (v2 : Int32) (v3 : Nat) (v4 : Int32) (v6 : Nat) (v7 : Nat) (v8 : Int32) (v9 : Int32) (v10 : Int32) (v11 : Int32) (v12 : Int32) (v13 : Int32) M, xZ oI O (d + 7) 97 246 [(0, .ref v0), (2, .int v2), (3, .ref v3), (4, .int v4), (6, .ref v6), (7, .ref v7), (8, .int v8), (9, .int v9), (10, .int v10), (11, .int v11), (12, .int v12), (13, .int v13)] [] M (K246 v0 v2 v3 v4 v6 v7 v8 v9 v10 v11 v12 v13 M)) (v0 : Nat) (v2 : Int32) (v3 : Nat) (v4 : Int32) (v6 : Nat) (v7 : Nat) (v8 : Int32) (v9 : Int32) (v10 : Int32) (v11 : Int32) (v13 : Int32) (M : xM) : xZ oI O (d + 7) 97 298 [(0, .ref v0), (2, .int v2), (3, .ref v3), (4, .int v4), (6, .ref v6), (7, .ref v7), (8, .int v8), (9, .int v9), (10, .int v10), (11, .int v11), (13, .int v13)] [] M (f_Law_areMoved_298 O f K246 v0 v2 v3 v4 v6 v7 v8 v9 v10 v11 v13 M) := by
  unfold f_Law_areMoved_298
  refine xZ.adv (me := xm97) hP_97 4 (pc' := 246) (lv' := [(13, .int (v13 + (1 : Int32))), (12, .int v13), (0, .ref v0), (2, .int v2), (3, .ref v3), (4, .int v4), (6, .ref v6), (7, .ref v7), (8, .int v8), (9, .int v9), (10, .int v10), (11, .int v11)]) (st' := []) rfl ?_
  exact xZ.sub (xsc (.tail _ (.tail _ (.head _))) (xsc (.tail _ (.tail _ (.tail _ (.head _)))) (xsc (.tail _ (.tail _ (.tail _ (.tail _ (.head _))))) (xsc (.tail _ (.tail _ (.tail _ (.tail _ (.tail _ (.head _)))))) (xsc (.tail _ (.tail _ (.tail _ (.tail _ (.tail _ (.tail _ (.head _))))))) (xsc (.tail _ (.tail _ (.tail _ (.tail _ (.tail _ (.tail _ (.tail _ (.head _)))))))) (xsc (.tail _ (.tail _ (.tail _ (.tail _ (.tail _ (.tail _ (.tail _ (.tail _ (.head _))))))))) (xsc (.tail _ (.tail _ (.tail _ (.tail _ (.tail _ (.tail _ (.tail _ (.tail _ (.tail _ (.head _)))))))))) (xsc (.tail _ (.tail _ (.tail _ (.tail _ (.tail _ (.tail _ (.tail _ (.tail _ (.tail _ (.tail _ (.head _))))))))))) (xsc (.tail _ (.tail _ (.tail _ (.tail _ (.tail _ (.tail _ (.tail _ (.tail _ (.tail _ (.tail _ (.tail _ (.head _)))))))))))) (xsc (.tail _ (.head _)) (xsc (.head _) xsn)))))))))))) (show ([13, 12, 0, 2, 3, 4, 6, 7, 8, 9, 10, 11] : List Nat).Nodup from by decide) (hK246 v0 v2 v3 v4 v6 v7 v8 v9 v10 v11 v13 (v13 + (1 : Int32)) M)
def f_Law_areMoved_246 (O : Nat → Option va_E) (f : Nat) : Nat → Nat → Int32 → Nat → Int32 → Nat → Nat → Int32 → Int32 → Int32 → Int32 → Int32 → Int32 → xM → Option (Int32 × xM)
  | 0, _, _, _, _, _, _, _, _, _, _, _, _, _ => none
  | n + 1, v0, v2, v3, v4, v6, v7, v8, v9, v10, v11, v12, v13, M =>
    if v4 ≤ v13 then (
      if v10 ≤ v9 then (
        f_Law_areMoved_329 O f v0 v2 v3 v4 v6 v8 v9 v12 M
      ) else
      (isO O M v0 12).bind fun _ =>
      xcl (f_Calendarhall_countDates O f v0 v2 v9 v10 M) fun x1 M1 =>
      if v11 = x1 then (
        f_Law_areMoved_329 O f v0 v2 v3 v4 v6 v8 v9 v12 M1
      ) else
      some ((0 : Int32), M1)
    ) else
    (aI O M v7 v13).bind fun x2 =>
    if x2 < v9 then (
      f_Law_areMoved_246 O f n v0 v2 v3 v4 v6 v7 v8 v9 v10 v11 v12 (v13 + (1 : Int32)) M
    ) else
    (aI O M v7 v13).bind fun x3 =>
    if x3 < v10 then (
      if v12 = (-1 : Int32) then (
        f_Law_areMoved_298 O f (f_Law_areMoved_246 O f n) v0 v2 v3 v4 v6 v7 v8 v9 v10 (v11 + (1 : Int32)) v13 M
      ) else
      (aI O M v7 v13).bind fun x4 =>
      (aI O M v7 v12).bind fun x5 =>
      if x5 ≤ x4 then (
        f_Law_areMoved_246 O f n v0 v2 v3 v4 v6 v7 v8 v9 v10 (v11 + (1 : Int32)) v12 (v13 + (1 : Int32)) M
      ) else
      f_Law_areMoved_298 O f (f_Law_areMoved_246 O f n) v0 v2 v3 v4 v6 v7 v8 v9 v10 (v11 + (1 : Int32)) v13 M
    ) else
    f_Law_areMoved_246 O f n v0 v2 v3 v4 v6 v7 v8 v9 v10 v11 v12 (v13 + (1 : Int32)) M
set_option maxRecDepth 20000 in
theorem k_f_Law_areMoved_246 (O : Nat → Option va_E) (f d : Nat) : ∀ (n : Nat) (v0 : Nat) (v2 : Int32) (v3 : Nat) (v4 : Int32) (v6 : Nat) (v7 : Nat) (v8 : Int32) (v9 : Int32) (v10 : Int32) (v11 : Int32) (v12 : Int32) (v13 : Int32) (M : xM), xZ oI O (d + 7) 97 246 [(0, .ref v0), (2, .int v2), (3, .ref v3), (4, .int v4), (6, .ref v6), (7, .ref v7), (8, .int v8), (9, .int v9), (10, .int v10), (11, .int v11), (12, .int v12), (13, .int v13)] [] M (f_Law_areMoved_246 O f n v0 v2 v3 v4 v6 v7 v8 v9 v10 v11 v12 v13 M) := by
  intro n
  induction n with
  | zero =>
    intro v0 v2 v3 v4 v6 v7 v8 v9 v10 v11 v12 v13 M
    exact xZ.no
  | succ n ih =>
    intro v0 v2 v3 v4 v6 v7 v8 v9 v10 v11 v12 v13 M
    unfold f_Law_areMoved_246
    refine xZ.adv (me := xm97) hP_97 2 (pc' := 250) (lv' := [(0, .ref v0), (2, .int v2), (3, .ref v3), (4, .int v4), (6, .ref v6), (7, .ref v7), (8, .int v8), (9, .int v9), (10, .int v10), (11, .int v11), (12, .int v12), (13, .int v13)]) (st' := [.int v4, .int v13]) rfl ?_
    refine xZ.ic_ge (me := xm97) hP_97 rfl (fun h1 => ?_) (fun h1 => ?_)
    · skip
      refine xZ.adv (me := xm97) hP_97 2 (pc' := 312) (lv' := [(0, .ref v0), (2, .int v2), (3, .ref v3), (4, .int v4), (6, .ref v6), (7, .ref v7), (8, .int v8), (9, .int v9), (10, .int v10), (11, .int v11), (12, .int v12), (13, .int v13)]) (st' := [.int v9, .int v10]) rfl ?_
      refine xZ.ic_le (me := xm97) hP_97 rfl (fun h2 => ?_) (fun h2 => ?_)
      · skip
        exact xZ.sub (xsc (.head _) (xsc (.tail _ (.head _)) (xsc (.tail _ (.tail _ (.head _))) (xsc (.tail _ (.tail _ (.tail _ (.head _)))) (xsc (.tail _ (.tail _ (.tail _ (.tail _ (.head _))))) (xsc (.tail _ (.tail _ (.tail _ (.tail _ (.tail _ (.tail _ (.head _))))))) (xsc (.tail _ (.tail _ (.tail _ (.tail _ (.tail _ (.tail _ (.tail _ (.head _)))))))) (xsc (.tail _ (.tail _ (.tail _ (.tail _ (.tail _ (.tail _ (.tail _ (.tail _ (.tail _ (.tail _ (.head _))))))))))) xsn)))))))) (show ([0, 2, 3, 4, 6, 7, 8, 9, 10, 11, 12, 13] : List Nat).Nodup from by decide) (k_f_Law_areMoved_329 O f d v0 v2 v3 v4 v6 v8 v9 v12 M)
      · skip
        refine xZ.adv (me := xm97) hP_97 5 (pc' := 323) (lv' := [(0, .ref v0), (2, .int v2), (3, .ref v3), (4, .int v4), (6, .ref v6), (7, .ref v7), (8, .int v8), (9, .int v9), (10, .int v10), (11, .int v11), (12, .int v12), (13, .int v13)]) (st' := [.int v10, .int v9, .int v2, .ref v0, .int v11]) rfl ?_
        refine xZ.callv (κ := oI) (av := [.int v2, .int v9, .int v10]) (rest := [.int v11]) (st' := fun x1 => [.int x1, .int v11]) (k0 := v0) (me := xm97) hP_97 rfl (Or.inl rfl) ⟨rfl, by decide⟩ rfl rfl (Nat.le_of_ble_eq_true rfl) (by decide) hP_113 (Nat.le_of_ble_eq_true rfl) (fun _ => rfl) (k_f_Calendarhall_countDates O f (d + 0) v0 v2 v9 v10 M) (fun x1 M1 => ?_)
        refine xZ.ic_ne (me := xm97) hP_97 rfl (fun h3 => ?_) (fun h3 => ?_)
        · skip
          exact xZ.sub (xsc (.head _) (xsc (.tail _ (.head _)) (xsc (.tail _ (.tail _ (.head _))) (xsc (.tail _ (.tail _ (.tail _ (.head _)))) (xsc (.tail _ (.tail _ (.tail _ (.tail _ (.head _))))) (xsc (.tail _ (.tail _ (.tail _ (.tail _ (.tail _ (.tail _ (.head _))))))) (xsc (.tail _ (.tail _ (.tail _ (.tail _ (.tail _ (.tail _ (.tail _ (.head _)))))))) (xsc (.tail _ (.tail _ (.tail _ (.tail _ (.tail _ (.tail _ (.tail _ (.tail _ (.tail _ (.tail _ (.head _))))))))))) xsn)))))))) (show ([0, 2, 3, 4, 6, 7, 8, 9, 10, 11, 12, 13] : List Nat).Nodup from by decide) (k_f_Law_areMoved_329 O f d v0 v2 v3 v4 v6 v8 v9 v12 M1)
        · skip
          refine xZ.adv (me := xm97) hP_97 1 (pc' := 350) (lv' := [(0, .ref v0), (2, .int v2), (3, .ref v3), (4, .int v4), (6, .ref v6), (7, .ref v7), (8, .int v8), (9, .int v9), (10, .int v10), (11, .int v11), (12, .int v12), (13, .int v13)]) (st' := [.int (0 : Int32)]) rfl ?_
          exact xZ.rete (me := xm97) hP_97 rfl rfl rfl
    · skip
      refine xZ.adv (me := xm97) hP_97 2 (pc' := 257) (lv' := [(0, .ref v0), (2, .int v2), (3, .ref v3), (4, .int v4), (6, .ref v6), (7, .ref v7), (8, .int v8), (9, .int v9), (10, .int v10), (11, .int v11), (12, .int v12), (13, .int v13)]) (st' := [.int v13, .ref v7]) rfl ?_
      refine xZ.k_aI (me := xm97) hP_97 rfl (fun x2 => ?_)
      refine xZ.adv (me := xm97) hP_97 1 (pc' := 260) (lv' := [(0, .ref v0), (2, .int v2), (3, .ref v3), (4, .int v4), (6, .ref v6), (7, .ref v7), (8, .int v8), (9, .int v9), (10, .int v10), (11, .int v11), (12, .int v12), (13, .int v13)]) (st' := [.int v9, .int x2]) rfl ?_
      refine xZ.ic_lt (me := xm97) hP_97 rfl (fun h4 => ?_) (fun h4 => ?_)
      · skip
        refine xZ.adv (me := xm97) hP_97 2 (pc' := 246) (lv' := [(13, .int (v13 + (1 : Int32))), (0, .ref v0), (2, .int v2), (3, .ref v3), (4, .int v4), (6, .ref v6), (7, .ref v7), (8, .int v8), (9, .int v9), (10, .int v10), (11, .int v11), (12, .int v12)]) (st' := []) rfl ?_
        exact xZ.sub (xsc (.tail _ (.head _)) (xsc (.tail _ (.tail _ (.head _))) (xsc (.tail _ (.tail _ (.tail _ (.head _)))) (xsc (.tail _ (.tail _ (.tail _ (.tail _ (.head _))))) (xsc (.tail _ (.tail _ (.tail _ (.tail _ (.tail _ (.head _)))))) (xsc (.tail _ (.tail _ (.tail _ (.tail _ (.tail _ (.tail _ (.head _))))))) (xsc (.tail _ (.tail _ (.tail _ (.tail _ (.tail _ (.tail _ (.tail _ (.head _)))))))) (xsc (.tail _ (.tail _ (.tail _ (.tail _ (.tail _ (.tail _ (.tail _ (.tail _ (.head _))))))))) (xsc (.tail _ (.tail _ (.tail _ (.tail _ (.tail _ (.tail _ (.tail _ (.tail _ (.tail _ (.head _)))))))))) (xsc (.tail _ (.tail _ (.tail _ (.tail _ (.tail _ (.tail _ (.tail _ (.tail _ (.tail _ (.tail _ (.head _))))))))))) (xsc (.tail _ (.tail _ (.tail _ (.tail _ (.tail _ (.tail _ (.tail _ (.tail _ (.tail _ (.tail _ (.tail _ (.head _)))))))))))) (xsc (.head _) xsn)))))))))))) (show ([13, 0, 2, 3, 4, 6, 7, 8, 9, 10, 11, 12] : List Nat).Nodup from by decide) (ih v0 v2 v3 v4 v6 v7 v8 v9 v10 v11 v12 (v13 + (1 : Int32)) M)
      · skip
        refine xZ.adv (me := xm97) hP_97 2 (pc' := 267) (lv' := [(0, .ref v0), (2, .int v2), (3, .ref v3), (4, .int v4), (6, .ref v6), (7, .ref v7), (8, .int v8), (9, .int v9), (10, .int v10), (11, .int v11), (12, .int v12), (13, .int v13)]) (st' := [.int v13, .ref v7]) rfl ?_
        refine xZ.k_aI (me := xm97) hP_97 rfl (fun x3 => ?_)
        refine xZ.adv (me := xm97) hP_97 1 (pc' := 270) (lv' := [(0, .ref v0), (2, .int v2), (3, .ref v3), (4, .int v4), (6, .ref v6), (7, .ref v7), (8, .int v8), (9, .int v9), (10, .int v10), (11, .int v11), (12, .int v12), (13, .int v13)]) (st' := [.int v10, .int x3]) rfl ?_
        refine xZ.ic_lt (me := xm97) hP_97 rfl (fun h5 => ?_) (fun h5 => ?_)
        · skip
          refine xZ.adv (me := xm97) hP_97 3 (pc' := 282) (lv' := [(11, .int (v11 + (1 : Int32))), (0, .ref v0), (2, .int v2), (3, .ref v3), (4, .int v4), (6, .ref v6), (7, .ref v7), (8, .int v8), (9, .int v9), (10, .int v10), (12, .int v12), (13, .int v13)]) (st' := [.int (-1 : Int32), .int v12]) rfl ?_
          refine xZ.ic_eq (me := xm97) hP_97 rfl (fun h6 => ?_) (fun h6 => ?_)
          · skip
            exact xZ.sub (xsc (.tail _ (.head _)) (xsc (.tail _ (.tail _ (.head _))) (xsc (.tail _ (.tail _ (.tail _ (.head _)))) (xsc (.tail _ (.tail _ (.tail _ (.tail _ (.head _))))) (xsc (.tail _ (.tail _ (.tail _ (.tail _ (.tail _ (.head _)))))) (xsc (.tail _ (.tail _ (.tail _ (.tail _ (.tail _ (.tail _ (.head _))))))) (xsc (.tail _ (.tail _ (.tail _ (.tail _ (.tail _ (.tail _ (.tail _ (.head _)))))))) (xsc (.tail _ (.tail _ (.tail _ (.tail _ (.tail _ (.tail _ (.tail _ (.tail _ (.head _))))))))) (xsc (.tail _ (.tail _ (.tail _ (.tail _ (.tail _ (.tail _ (.tail _ (.tail _ (.tail _ (.head _)))))))))) (xsc (.head _) (xsc (.tail _ (.tail _ (.tail _ (.tail _ (.tail _ (.tail _ (.tail _ (.tail _ (.tail _ (.tail _ (.tail _ (.head _)))))))))))) xsn))))))))))) (show ([11, 0, 2, 3, 4, 6, 7, 8, 9, 10, 12, 13] : List Nat).Nodup from by decide) (k_f_Law_areMoved_298 O f d (f_Law_areMoved_246 O f n) ih v0 v2 v3 v4 v6 v7 v8 v9 v10 (v11 + (1 : Int32)) v13 M)
          · skip
            refine xZ.adv (me := xm97) hP_97 2 (pc' := 289) (lv' := [(11, .int (v11 + (1 : Int32))), (0, .ref v0), (2, .int v2), (3, .ref v3), (4, .int v4), (6, .ref v6), (7, .ref v7), (8, .int v8), (9, .int v9), (10, .int v10), (12, .int v12), (13, .int v13)]) (st' := [.int v13, .ref v7]) rfl ?_
            refine xZ.k_aI (me := xm97) hP_97 rfl (fun x4 => ?_)
            refine xZ.adv (me := xm97) hP_97 2 (pc' := 294) (lv' := [(11, .int (v11 + (1 : Int32))), (0, .ref v0), (2, .int v2), (3, .ref v3), (4, .int v4), (6, .ref v6), (7, .ref v7), (8, .int v8), (9, .int v9), (10, .int v10), (12, .int v12), (13, .int v13)]) (st' := [.int v12, .ref v7, .int x4]) rfl ?_
            refine xZ.k_aI (me := xm97) hP_97 rfl (fun x5 => ?_)
            refine xZ.ic_ge (me := xm97) hP_97 rfl (fun h7 => ?_) (fun h7 => ?_)
            · skip
              refine xZ.adv (me := xm97) hP_97 2 (pc' := 246) (lv' := [(13, .int (v13 + (1 : Int32))), (11, .int (v11 + (1 : Int32))), (0, .ref v0), (2, .int v2), (3, .ref v3), (4, .int v4), (6, .ref v6), (7, .ref v7), (8, .int v8), (9, .int v9), (10, .int v10), (12, .int v12)]) (st' := []) rfl ?_
              exact xZ.sub (xsc (.tail _ (.tail _ (.head _))) (xsc (.tail _ (.tail _ (.tail _ (.head _)))) (xsc (.tail _ (.tail _ (.tail _ (.tail _ (.head _))))) (xsc (.tail _ (.tail _ (.tail _ (.tail _ (.tail _ (.head _)))))) (xsc (.tail _ (.tail _ (.tail _ (.tail _ (.tail _ (.tail _ (.head _))))))) (xsc (.tail _ (.tail _ (.tail _ (.tail _ (.tail _ (.tail _ (.tail _ (.head _)))))))) (xsc (.tail _ (.tail _ (.tail _ (.tail _ (.tail _ (.tail _ (.tail _ (.tail _ (.head _))))))))) (xsc (.tail _ (.tail _ (.tail _ (.tail _ (.tail _ (.tail _ (.tail _ (.tail _ (.tail _ (.head _)))))))))) (xsc (.tail _ (.tail _ (.tail _ (.tail _ (.tail _ (.tail _ (.tail _ (.tail _ (.tail _ (.tail _ (.head _))))))))))) (xsc (.tail _ (.head _)) (xsc (.tail _ (.tail _ (.tail _ (.tail _ (.tail _ (.tail _ (.tail _ (.tail _ (.tail _ (.tail _ (.tail _ (.head _)))))))))))) (xsc (.head _) xsn)))))))))))) (show ([13, 11, 0, 2, 3, 4, 6, 7, 8, 9, 10, 12] : List Nat).Nodup from by decide) (ih v0 v2 v3 v4 v6 v7 v8 v9 v10 (v11 + (1 : Int32)) v12 (v13 + (1 : Int32)) M)
            · skip
              exact xZ.sub (xsc (.tail _ (.head _)) (xsc (.tail _ (.tail _ (.head _))) (xsc (.tail _ (.tail _ (.tail _ (.head _)))) (xsc (.tail _ (.tail _ (.tail _ (.tail _ (.head _))))) (xsc (.tail _ (.tail _ (.tail _ (.tail _ (.tail _ (.head _)))))) (xsc (.tail _ (.tail _ (.tail _ (.tail _ (.tail _ (.tail _ (.head _))))))) (xsc (.tail _ (.tail _ (.tail _ (.tail _ (.tail _ (.tail _ (.tail _ (.head _)))))))) (xsc (.tail _ (.tail _ (.tail _ (.tail _ (.tail _ (.tail _ (.tail _ (.tail _ (.head _))))))))) (xsc (.tail _ (.tail _ (.tail _ (.tail _ (.tail _ (.tail _ (.tail _ (.tail _ (.tail _ (.head _)))))))))) (xsc (.head _) (xsc (.tail _ (.tail _ (.tail _ (.tail _ (.tail _ (.tail _ (.tail _ (.tail _ (.tail _ (.tail _ (.tail _ (.head _)))))))))))) xsn))))))))))) (show ([11, 0, 2, 3, 4, 6, 7, 8, 9, 10, 12, 13] : List Nat).Nodup from by decide) (k_f_Law_areMoved_298 O f d (f_Law_areMoved_246 O f n) ih v0 v2 v3 v4 v6 v7 v8 v9 v10 (v11 + (1 : Int32)) v13 M)
        · skip
          refine xZ.adv (me := xm97) hP_97 3 (pc' := 246) (lv' := [(13, .int (v13 + (1 : Int32))), (0, .ref v0), (2, .int v2), (3, .ref v3), (4, .int v4), (6, .ref v6), (7, .ref v7), (8, .int v8), (9, .int v9), (10, .int v10), (11, .int v11), (12, .int v12)]) (st' := []) rfl ?_
          exact xZ.sub (xsc (.tail _ (.head _)) (xsc (.tail _ (.tail _ (.head _))) (xsc (.tail _ (.tail _ (.tail _ (.head _)))) (xsc (.tail _ (.tail _ (.tail _ (.tail _ (.head _))))) (xsc (.tail _ (.tail _ (.tail _ (.tail _ (.tail _ (.head _)))))) (xsc (.tail _ (.tail _ (.tail _ (.tail _ (.tail _ (.tail _ (.head _))))))) (xsc (.tail _ (.tail _ (.tail _ (.tail _ (.tail _ (.tail _ (.tail _ (.head _)))))))) (xsc (.tail _ (.tail _ (.tail _ (.tail _ (.tail _ (.tail _ (.tail _ (.tail _ (.head _))))))))) (xsc (.tail _ (.tail _ (.tail _ (.tail _ (.tail _ (.tail _ (.tail _ (.tail _ (.tail _ (.head _)))))))))) (xsc (.tail _ (.tail _ (.tail _ (.tail _ (.tail _ (.tail _ (.tail _ (.tail _ (.tail _ (.tail _ (.head _))))))))))) (xsc (.tail _ (.tail _ (.tail _ (.tail _ (.tail _ (.tail _ (.tail _ (.tail _ (.tail _ (.tail _ (.tail _ (.head _)))))))))))) (xsc (.head _) xsn)))))))))))) (show ([13, 0, 2, 3, 4, 6, 7, 8, 9, 10, 11, 12] : List Nat).Nodup from by decide) (ih v0 v2 v3 v4 v6 v7 v8 v9 v10 v11 v12 (v13 + (1 : Int32)) M)
def f_Law_areMoved_85 (O : Nat → Option va_E) (f : Nat) : Nat → Nat → Nat → Int32 → Nat → Int32 → Int32 → Nat → Nat → Int32 → Int32 → xM → Option (Int32 × xM)
  | 0, _, _, _, _, _, _, _, _, _, _, _ => none
  | n + 1, v0, v1, v2, v3, v4, v5, v6, v7, v8, v9, M =>
    if v8 ≤ v9 then (
      (aI O M v6 (0 : Int32)).bind fun x1 =>
      xcl (f_Math_max O f (14400 : Int32) (x1 - (2000 : Int32)) M) fun x2 M1 =>
      xcl (f_Math_min O f (x2 + (525600 : Int32)) (((1440 : Int32) * (v5 - (1 : Int32))) - (1500 : Int32)) M1) fun x3 M2 =>
      f_Law_areMoved_246 O f f v0 v2 v3 v4 v6 v7 v8 x2 x3 (0 : Int32) (-1 : Int32) (0 : Int32) M2
    ) else
    (isO O M v1 15).bind fun _ =>
    xcl (f_LDraw_n O f v1 v4 M) fun x4 M3 =>
    (isO O M3 v1 15).bind fun _ =>
    xcl (f_LDraw_is O f v1 (3 : Int32) M3) fun x5 M4 =>
    if x5 = 0 then (
      (aI O M4 v3 x4).bind fun x6 =>
      (aI O M4 v3 x4).bind fun x7 =>
      (isO O M4 v1 15).bind fun _ =>
      xcl (f_LDraw_n O f v1 (5 : Int32) M4) fun x8 M5 =>
      (isO O M5 v1 15).bind fun _ =>
      xcl (f_LDraw_n O f v1 (1440 : Int32) M5) fun x9 M6 =>
      (isO O M6 v0 12).bind fun _ =>
      xcl (f_Calendarhall_move O f v0 v2 x6 (x7 + x8) x9 M6) fun x10 M7 =>
      (wI M7 v7 x4 x10).bind fun M8 =>
      f_Law_areMoved_158 O f (f_Law_areMoved_85 O f n) v0 v1 v2 v3 v4 v5 v6 v7 v8 v9 M8
    ) else
    (aI O M4 v3 x4).bind fun x11 =>
    (isO O M4 v0 12).bind fun _ =>
    xcl (f_Calendarhall_leaveOut O f v0 v2 x11 M4) fun x12 M9 =>
    (wI M9 v7 x4 (-1 : Int32)).bind fun M10 =>
    f_Law_areMoved_158 O f (f_Law_areMoved_85 O f n) v0 v1 v2 v3 v4 v5 v6 v7 v8 v9 M10
set_option maxRecDepth 20000 in
theorem k_f_Law_areMoved_85 (O : Nat → Option va_E) (f d : Nat) : ∀ (n : Nat) (v0 : Nat) (v1 : Nat) (v2 : Int32) (v3 : Nat) (v4 : Int32) (v5 : Int32) (v6 : Nat) (v7 : Nat) (v8 : Int32) (v9 : Int32) (M : xM), xZ oI O (d + 7) 97 85 [(0, .ref v0), (1, .ref v1), (2, .int v2), (3, .ref v3), (4, .int v4), (5, .int v5), (6, .ref v6), (7, .ref v7), (8, .int v8), (9, .int v9)] [] M (f_Law_areMoved_85 O f n v0 v1 v2 v3 v4 v5 v6 v7 v8 v9 M) := by
  intro n
  induction n with
  | zero =>
    intro v0 v1 v2 v3 v4 v5 v6 v7 v8 v9 M
    exact xZ.no
  | succ n ih =>
    intro v0 v1 v2 v3 v4 v5 v6 v7 v8 v9 M
    unfold f_Law_areMoved_85
    refine xZ.adv (me := xm97) hP_97 2 (pc' := 89) (lv' := [(0, .ref v0), (1, .ref v1), (2, .int v2), (3, .ref v3), (4, .int v4), (5, .int v5), (6, .ref v6), (7, .ref v7), (8, .int v8), (9, .int v9)]) (st' := [.int v8, .int v9]) rfl ?_
    refine xZ.ic_ge (me := xm97) hP_97 rfl (fun h1 => ?_) (fun h1 => ?_)
    · skip
      refine xZ.adv (me := xm97) hP_97 3 (pc' := 205) (lv' := [(0, .ref v0), (1, .ref v1), (2, .int v2), (3, .ref v3), (4, .int v4), (5, .int v5), (6, .ref v6), (7, .ref v7), (8, .int v8), (9, .int v9)]) (st' := [.int (0 : Int32), .ref v6, .int (14400 : Int32)]) rfl ?_
      refine xZ.k_aI (me := xm97) hP_97 rfl (fun x1 => ?_)
      refine xZ.adv (me := xm97) hP_97 2 (pc' := 210) (lv' := [(0, .ref v0), (1, .ref v1), (2, .int v2), (3, .ref v3), (4, .int v4), (5, .int v5), (6, .ref v6), (7, .ref v7), (8, .int v8), (9, .int v9)]) (st' := [.int (x1 - (2000 : Int32)), .int (14400 : Int32)]) rfl ?_
      refine xZ.calls (κ := oI) (av := [.int (14400 : Int32), .int (x1 - (2000 : Int32))]) (rest := []) (st' := fun x2 => [.int x2]) (me := xm97) hP_97 rfl rfl rfl (Nat.le_of_ble_eq_true rfl) (by decide) hP_247 (Nat.le_of_ble_eq_true rfl) (fun _ => rfl) (k_f_Math_max O f (d + 6) (14400 : Int32) (x1 - (2000 : Int32)) M) (fun x2 M1 => ?_)
      refine xZ.adv (me := xm97) hP_97 11 (pc' := 232) (lv' := [(9, .int x2), (0, .ref v0), (1, .ref v1), (2, .int v2), (3, .ref v3), (4, .int v4), (5, .int v5), (6, .ref v6), (7, .ref v7), (8, .int v8)]) (st' := [.int (((1440 : Int32) * (v5 - (1 : Int32))) - (1500 : Int32)), .int (x2 + (525600 : Int32))]) rfl ?_
      refine xZ.calls (κ := oI) (av := [.int (x2 + (525600 : Int32)), .int (((1440 : Int32) * (v5 - (1 : Int32))) - (1500 : Int32))]) (rest := []) (st' := fun x3 => [.int x3]) (me := xm97) hP_97 rfl rfl rfl (Nat.le_of_ble_eq_true rfl) (by decide) hP_248 (Nat.le_of_ble_eq_true rfl) (fun _ => rfl) (k_f_Math_min O f (d + 6) (x2 + (525600 : Int32)) (((1440 : Int32) * (v5 - (1 : Int32))) - (1500 : Int32)) M1) (fun x3 M2 => ?_)
      refine xZ.adv (me := xm97) hP_97 7 (pc' := 246) (lv' := [(13, .int (0 : Int32)), (12, .int (-1 : Int32)), (11, .int (0 : Int32)), (10, .int x3), (9, .int x2), (0, .ref v0), (1, .ref v1), (2, .int v2), (3, .ref v3), (4, .int v4), (5, .int v5), (6, .ref v6), (7, .ref v7), (8, .int v8)]) (st' := []) rfl ?_
      exact xZ.sub (xsc (.tail _ (.tail _ (.tail _ (.tail _ (.tail _ (.head _)))))) (xsc (.tail _ (.tail _ (.tail _ (.tail _ (.tail _ (.tail _ (.tail _ (.head _)))))))) (xsc (.tail _ (.tail _ (.tail _ (.tail _ (.tail _ (.tail _ (.tail _ (.tail _ (.head _))))))))) (xsc (.tail _ (.tail _ (.tail _ (.tail _ (.tail _ (.tail _ (.tail _ (.tail _ (.tail _ (.head _)))))))))) (xsc (.tail _ (.tail _ (.tail _ (.tail _ (.tail _ (.tail _ (.tail _ (.tail _ (.tail _ (.tail _ (.tail _ (.head _)))))))))))) (xsc (.tail _ (.tail _ (.tail _ (.tail _ (.tail _ (.tail _ (.tail _ (.tail _ (.tail _ (.tail _ (.tail _ (.tail _ (.head _))))))))))))) (xsc (.tail _ (.tail _ (.tail _ (.tail _ (.tail _ (.tail _ (.tail _ (.tail _ (.tail _ (.tail _ (.tail _ (.tail _ (.tail _ (.head _)))))))))))))) (xsc (.tail _ (.tail _ (.tail _ (.tail _ (.head _))))) (xsc (.tail _ (.tail _ (.tail _ (.head _)))) (xsc (.tail _ (.tail _ (.head _))) (xsc (.tail _ (.head _)) (xsc (.head _) xsn)))))))))))) (show ([13, 12, 11, 10, 9, 0, 1, 2, 3, 4, 5, 6, 7, 8] : List Nat).Nodup from by decide) (k_f_Law_areMoved_246 O f d f v0 v2 v3 v4 v6 v7 v8 x2 x3 (0 : Int32) (-1 : Int32) (0 : Int32) M2)
    · skip
      refine xZ.adv (me := xm97) hP_97 2 (pc' := 95) (lv' := [(0, .ref v0), (1, .ref v1), (2, .int v2), (3, .ref v3), (4, .int v4), (5, .int v5), (6, .ref v6), (7, .ref v7), (8, .int v8), (9, .int v9)]) (st' := [.int v4, .ref v1]) rfl ?_
      refine xZ.callv (κ := oI) (av := [.int v4]) (rest := []) (st' := fun x4 => [.int x4]) (k0 := v1) (me := xm97) hP_97 rfl (Or.inl rfl) ⟨rfl, by decide⟩ rfl rfl (Nat.le_of_ble_eq_true rfl) (by decide) hP_12 (Nat.le_of_ble_eq_true rfl) (fun _ => rfl) (k_f_LDraw_n O f (d + 6) v1 v4 M) (fun x4 M3 => ?_)
      refine xZ.adv (me := xm97) hP_97 3 (pc' := 102) (lv' := [(10, .int x4), (0, .ref v0), (1, .ref v1), (2, .int v2), (3, .ref v3), (4, .int v4), (5, .int v5), (6, .ref v6), (7, .ref v7), (8, .int v8), (9, .int v9)]) (st' := [.int (3 : Int32), .ref v1]) rfl ?_
      refine xZ.callv (κ := oI) (av := [.int (3 : Int32)]) (rest := []) (st' := fun x5 => [.int x5]) (k0 := v1) (me := xm97) hP_97 rfl (Or.inl rfl) ⟨rfl, by decide⟩ rfl rfl (Nat.le_of_ble_eq_true rfl) (by decide) hP_18 (Nat.le_of_ble_eq_true rfl) (fun _ => rfl) (k_f_LDraw_is O f (d + 5) v1 (3 : Int32) M3) (fun x5 M4 => ?_)
      refine xZ.if_eq (me := xm97) hP_97 rfl (fun h2 => ?_) (fun h2 => ?_)
      · skip
        refine xZ.adv (me := xm97) hP_97 6 (pc' := 136) (lv' := [(10, .int x4), (0, .ref v0), (1, .ref v1), (2, .int v2), (3, .ref v3), (4, .int v4), (5, .int v5), (6, .ref v6), (7, .ref v7), (8, .int v8), (9, .int v9)]) (st' := [.int x4, .ref v3, .int v2, .ref v0, .int x4, .ref v7]) rfl ?_
        refine xZ.k_aI (me := xm97) hP_97 rfl (fun x6 => ?_)
        refine xZ.adv (me := xm97) hP_97 2 (pc' := 140) (lv' := [(10, .int x4), (0, .ref v0), (1, .ref v1), (2, .int v2), (3, .ref v3), (4, .int v4), (5, .int v5), (6, .ref v6), (7, .ref v7), (8, .int v8), (9, .int v9)]) (st' := [.int x4, .ref v3, .int x6, .int v2, .ref v0, .int x4, .ref v7]) rfl ?_
        refine xZ.k_aI (me := xm97) hP_97 rfl (fun x7 => ?_)
        refine xZ.adv (me := xm97) hP_97 2 (pc' := 143) (lv' := [(10, .int x4), (0, .ref v0), (1, .ref v1), (2, .int v2), (3, .ref v3), (4, .int v4), (5, .int v5), (6, .ref v6), (7, .ref v7), (8, .int v8), (9, .int v9)]) (st' := [.int (5 : Int32), .ref v1, .int x7, .int x6, .int v2, .ref v0, .int x4, .ref v7]) rfl ?_
        refine xZ.callv (κ := oI) (av := [.int (5 : Int32)]) (rest := [.int x7, .int x6, .int v2, .ref v0, .int x4, .ref v7]) (st' := fun x8 => [.int x8, .int x7, .int x6, .int v2, .ref v0, .int x4, .ref v7]) (k0 := v1) (me := xm97) hP_97 rfl (Or.inl rfl) ⟨rfl, by decide⟩ rfl rfl (Nat.le_of_ble_eq_true rfl) (by decide) hP_12 (Nat.le_of_ble_eq_true rfl) (fun _ => rfl) (k_f_LDraw_n O f (d + 6) v1 (5 : Int32) M4) (fun x8 M5 => ?_)
        refine xZ.adv (me := xm97) hP_97 3 (pc' := 151) (lv' := [(10, .int x4), (0, .ref v0), (1, .ref v1), (2, .int v2), (3, .ref v3), (4, .int v4), (5, .int v5), (6, .ref v6), (7, .ref v7), (8, .int v8), (9, .int v9)]) (st' := [.int (1440 : Int32), .ref v1, .int (x7 + x8), .int x6, .int v2, .ref v0, .int x4, .ref v7]) rfl ?_
        refine xZ.callv (κ := oI) (av := [.int (1440 : Int32)]) (rest := [.int (x7 + x8), .int x6, .int v2, .ref v0, .int x4, .ref v7]) (st' := fun x9 => [.int x9, .int (x7 + x8), .int x6, .int v2, .ref v0, .int x4, .ref v7]) (k0 := v1) (me := xm97) hP_97 rfl (Or.inl rfl) ⟨rfl, by decide⟩ rfl rfl (Nat.le_of_ble_eq_true rfl) (by decide) hP_12 (Nat.le_of_ble_eq_true rfl) (fun _ => rfl) (k_f_LDraw_n O f (d + 6) v1 (1440 : Int32) M5) (fun x9 M6 => ?_)
        refine xZ.callv (κ := oI) (av := [.int v2, .int x6, .int (x7 + x8), .int x9]) (rest := [.int x4, .ref v7]) (st' := fun x10 => [.int x10, .int x4, .ref v7]) (k0 := v0) (me := xm97) hP_97 rfl (Or.inl rfl) ⟨rfl, by decide⟩ rfl rfl (Nat.le_of_ble_eq_true rfl) (by decide) hP_112 (Nat.le_of_ble_eq_true rfl) (fun _ => rfl) (k_f_Calendarhall_move O f (d + 1) v0 v2 x6 (x7 + x8) x9 M6) (fun x10 M7 => ?_)
        refine xZ.k_wI (me := xm97) hP_97 rfl (fun M8 => ?_)
        exact xZ.sub (xsc (.tail _ (.head _)) (xsc (.tail _ (.tail _ (.head _))) (xsc (.tail _ (.tail _ (.tail _ (.head _)))) (xsc (.tail _ (.tail _ (.tail _ (.tail _ (.head _))))) (xsc (.tail _ (.tail _ (.tail _ (.tail _ (.tail _ (.head _)))))) (xsc (.tail _ (.tail _ (.tail _ (.tail _ (.tail _ (.tail _ (.head _))))))) (xsc (.tail _ (.tail _ (.tail _ (.tail _ (.tail _ (.tail _ (.tail _ (.head _)))))))) (xsc (.tail _ (.tail _ (.tail _ (.tail _ (.tail _ (.tail _ (.tail _ (.tail _ (.head _))))))))) (xsc (.tail _ (.tail _ (.tail _ (.tail _ (.tail _ (.tail _ (.tail _ (.tail _ (.tail _ (.head _)))))))))) (xsc (.tail _ (.tail _ (.tail _ (.tail _ (.tail _ (.tail _ (.tail _ (.tail _ (.tail _ (.tail _ (.head _))))))))))) xsn)))))))))) (show ([10, 0, 1, 2, 3, 4, 5, 6, 7, 8, 9] : List Nat).Nodup from by decide) (k_f_Law_areMoved_158 O f d (f_Law_areMoved_85 O f n) ih v0 v1 v2 v3 v4 v5 v6 v7 v8 v9 M8)
      · skip
        refine xZ.adv (me := xm97) hP_97 4 (pc' := 113) (lv' := [(10, .int x4), (0, .ref v0), (1, .ref v1), (2, .int v2), (3, .ref v3), (4, .int v4), (5, .int v5), (6, .ref v6), (7, .ref v7), (8, .int v8), (9, .int v9)]) (st' := [.int x4, .ref v3, .int v2, .ref v0]) rfl ?_
        refine xZ.k_aI (me := xm97) hP_97 rfl (fun x11 => ?_)
        refine xZ.callv (κ := oI) (av := [.int v2, .int x11]) (rest := []) (st' := fun x12 => [.int x12]) (k0 := v0) (me := xm97) hP_97 rfl (Or.inl rfl) ⟨rfl, by decide⟩ rfl rfl (Nat.le_of_ble_eq_true rfl) (by decide) hP_109 (Nat.le_of_ble_eq_true rfl) (fun _ => rfl) (k_f_Calendarhall_leaveOut O f (d + 1) v0 v2 x11 M4) (fun x12 M9 => ?_)
        refine xZ.adv (me := xm97) hP_97 4 (pc' := 123) (lv' := [(10, .int x4), (0, .ref v0), (1, .ref v1), (2, .int v2), (3, .ref v3), (4, .int v4), (5, .int v5), (6, .ref v6), (7, .ref v7), (8, .int v8), (9, .int v9)]) (st' := [.int (-1 : Int32), .int x4, .ref v7]) rfl ?_
        refine xZ.k_wI (me := xm97) hP_97 rfl (fun M10 => ?_)
        refine xZ.adv (me := xm97) hP_97 1 (pc' := 158) (lv' := [(10, .int x4), (0, .ref v0), (1, .ref v1), (2, .int v2), (3, .ref v3), (4, .int v4), (5, .int v5), (6, .ref v6), (7, .ref v7), (8, .int v8), (9, .int v9)]) (st' := []) rfl ?_
        exact xZ.sub (xsc (.tail _ (.head _)) (xsc (.tail _ (.tail _ (.head _))) (xsc (.tail _ (.tail _ (.tail _ (.head _)))) (xsc (.tail _ (.tail _ (.tail _ (.tail _ (.head _))))) (xsc (.tail _ (.tail _ (.tail _ (.tail _ (.tail _ (.head _)))))) (xsc (.tail _ (.tail _ (.tail _ (.tail _ (.tail _ (.tail _ (.head _))))))) (xsc (.tail _ (.tail _ (.tail _ (.tail _ (.tail _ (.tail _ (.tail _ (.head _)))))))) (xsc (.tail _ (.tail _ (.tail _ (.tail _ (.tail _ (.tail _ (.tail _ (.tail _ (.head _))))))))) (xsc (.tail _ (.tail _ (.tail _ (.tail _ (.tail _ (.tail _ (.tail _ (.tail _ (.tail _ (.head _)))))))))) (xsc (.tail _ (.tail _ (.tail _ (.tail _ (.tail _ (.tail _ (.tail _ (.tail _ (.tail _ (.tail _ (.head _))))))))))) xsn)))))))))) (show ([10, 0, 1, 2, 3, 4, 5, 6, 7, 8, 9] : List Nat).Nodup from by decide) (k_f_Law_areMoved_158 O f d (f_Law_areMoved_85 O f n) ih v0 v1 v2 v3 v4 v5 v6 v7 v8 v9 M10)
def f_Law_areMoved_45 (O : Nat → Option va_E) (f : Nat) : Nat → Nat → Nat → Int32 → Nat → Int32 → Int32 → Nat → Nat → Int32 → xM → Option (Int32 × xM)
  | 0, _, _, _, _, _, _, _, _, _, _ => none
  | n + 1, v0, v1, v2, v3, v4, v5, v6, v7, v8, M =>
    if v4 ≤ v8 then (
      (isO O M v1 15).bind fun _ =>
      xcl (f_LDraw_n O f v1 (4 : Int32) M) fun x1 M1 =>
      xcl (f_Math_min O f v4 ((1 : Int32) + x1) M1) fun x2 M2 =>
      f_Law_areMoved_85 O f f v0 v1 v2 v3 v4 v5 v6 v7 x2 (0 : Int32) M2
    ) else
    (aI O M v6 v8).bind fun x3 =>
    (wI M v7 v8 x3).bind fun M3 =>
    f_Law_areMoved_45 O f n v0 v1 v2 v3 v4 v5 v6 v7 (v8 + (1 : Int32)) M3
set_option maxRecDepth 20000 in
theorem k_f_Law_areMoved_45 (O : Nat → Option va_E) (f d : Nat) : ∀ (n : Nat) (v0 : Nat) (v1 : Nat) (v2 : Int32) (v3 : Nat) (v4 : Int32) (v5 : Int32) (v6 : Nat) (v7 : Nat) (v8 : Int32) (M : xM), xZ oI O (d + 7) 97 45 [(0, .ref v0), (1, .ref v1), (2, .int v2), (3, .ref v3), (4, .int v4), (5, .int v5), (6, .ref v6), (7, .ref v7), (8, .int v8)] [] M (f_Law_areMoved_45 O f n v0 v1 v2 v3 v4 v5 v6 v7 v8 M) := by
  intro n
  induction n with
  | zero =>
    intro v0 v1 v2 v3 v4 v5 v6 v7 v8 M
    exact xZ.no
  | succ n ih =>
    intro v0 v1 v2 v3 v4 v5 v6 v7 v8 M
    unfold f_Law_areMoved_45
    refine xZ.adv (me := xm97) hP_97 2 (pc' := 49) (lv' := [(0, .ref v0), (1, .ref v1), (2, .int v2), (3, .ref v3), (4, .int v4), (5, .int v5), (6, .ref v6), (7, .ref v7), (8, .int v8)]) (st' := [.int v4, .int v8]) rfl ?_
    refine xZ.ic_ge (me := xm97) hP_97 rfl (fun h1 => ?_) (fun h1 => ?_)
    · skip
      refine xZ.adv (me := xm97) hP_97 4 (pc' := 73) (lv' := [(0, .ref v0), (1, .ref v1), (2, .int v2), (3, .ref v3), (4, .int v4), (5, .int v5), (6, .ref v6), (7, .ref v7), (8, .int v8)]) (st' := [.int (4 : Int32), .ref v1, .int (1 : Int32), .int v4]) rfl ?_
      refine xZ.callv (κ := oI) (av := [.int (4 : Int32)]) (rest := [.int (1 : Int32), .int v4]) (st' := fun x1 => [.int x1, .int (1 : Int32), .int v4]) (k0 := v1) (me := xm97) hP_97 rfl (Or.inl rfl) ⟨rfl, by decide⟩ rfl rfl (Nat.le_of_ble_eq_true rfl) (by decide) hP_12 (Nat.le_of_ble_eq_true rfl) (fun _ => rfl) (k_f_LDraw_n O f (d + 6) v1 (4 : Int32) M) (fun x1 M1 => ?_)
      refine xZ.adv (me := xm97) hP_97 1 (pc' := 77) (lv' := [(0, .ref v0), (1, .ref v1), (2, .int v2), (3, .ref v3), (4, .int v4), (5, .int v5), (6, .ref v6), (7, .ref v7), (8, .int v8)]) (st' := [.int ((1 : Int32) + x1), .int v4]) rfl ?_
      refine xZ.calls (κ := oI) (av := [.int v4, .int ((1 : Int32) + x1)]) (rest := []) (st' := fun x2 => [.int x2]) (me := xm97) hP_97 rfl rfl rfl (Nat.le_of_ble_eq_true rfl) (by decide) hP_248 (Nat.le_of_ble_eq_true rfl) (fun _ => rfl) (k_f_Math_min O f (d + 6) v4 ((1 : Int32) + x1) M1) (fun x2 M2 => ?_)
      refine xZ.adv (me := xm97) hP_97 3 (pc' := 85) (lv' := [(9, .int (0 : Int32)), (8, .int x2), (0, .ref v0), (1, .ref v1), (2, .int v2), (3, .ref v3), (4, .int v4), (5, .int v5), (6, .ref v6), (7, .ref v7)]) (st' := []) rfl ?_
      exact xZ.sub (xsc (.tail _ (.tail _ (.head _))) (xsc (.tail _ (.tail _ (.tail _ (.head _)))) (xsc (.tail _ (.tail _ (.tail _ (.tail _ (.head _))))) (xsc (.tail _ (.tail _ (.tail _ (.tail _ (.tail _ (.head _)))))) (xsc (.tail _ (.tail _ (.tail _ (.tail _ (.tail _ (.tail _ (.head _))))))) (xsc (.tail _ (.tail _ (.tail _ (.tail _ (.tail _ (.tail _ (.tail _ (.head _)))))))) (xsc (.tail _ (.tail _ (.tail _ (.tail _ (.tail _ (.tail _ (.tail _ (.tail _ (.head _))))))))) (xsc (.tail _ (.tail _ (.tail _ (.tail _ (.tail _ (.tail _ (.tail _ (.tail _ (.tail _ (.head _)))))))))) (xsc (.tail _ (.head _)) (xsc (.head _) xsn)))))))))) (show ([9, 8, 0, 1, 2, 3, 4, 5, 6, 7] : List Nat).Nodup from by decide) (k_f_Law_areMoved_85 O f d f v0 v1 v2 v3 v4 v5 v6 v7 x2 (0 : Int32) M2)
    · skip
      refine xZ.adv (me := xm97) hP_97 4 (pc' := 60) (lv' := [(0, .ref v0), (1, .ref v1), (2, .int v2), (3, .ref v3), (4, .int v4), (5, .int v5), (6, .ref v6), (7, .ref v7), (8, .int v8)]) (st' := [.int v8, .ref v6, .int v8, .ref v7]) rfl ?_
      refine xZ.k_aI (me := xm97) hP_97 rfl (fun x3 => ?_)
      refine xZ.k_wI (me := xm97) hP_97 rfl (fun M3 => ?_)
      refine xZ.adv (me := xm97) hP_97 2 (pc' := 45) (lv' := [(8, .int (v8 + (1 : Int32))), (0, .ref v0), (1, .ref v1), (2, .int v2), (3, .ref v3), (4, .int v4), (5, .int v5), (6, .ref v6), (7, .ref v7)]) (st' := []) rfl ?_
      exact xZ.sub (xsc (.tail _ (.head _)) (xsc (.tail _ (.tail _ (.head _))) (xsc (.tail _ (.tail _ (.tail _ (.head _)))) (xsc (.tail _ (.tail _ (.tail _ (.tail _ (.head _))))) (xsc (.tail _ (.tail _ (.tail _ (.tail _ (.tail _ (.head _)))))) (xsc (.tail _ (.tail _ (.tail _ (.tail _ (.tail _ (.tail _ (.head _))))))) (xsc (.tail _ (.tail _ (.tail _ (.tail _ (.tail _ (.tail _ (.tail _ (.head _)))))))) (xsc (.tail _ (.tail _ (.tail _ (.tail _ (.tail _ (.tail _ (.tail _ (.tail _ (.head _))))))))) (xsc (.head _) xsn))))))))) (show ([8, 0, 1, 2, 3, 4, 5, 6, 7] : List Nat).Nodup from by decide) (ih v0 v1 v2 v3 v4 v5 v6 v7 (v8 + (1 : Int32)) M3)
def f_Law_areMoved_9 (O : Nat → Option va_E) (f : Nat) : Nat → Nat → Nat → Int32 → Nat → Int32 → Int32 → Nat → Int32 → xM → Option (Int32 × xM)
  | 0, _, _, _, _, _, _, _, _, _ => none
  | n + 1, v0, v1, v2, v3, v4, v5, v6, v7, M =>
    if v4 ≤ v7 then (
      xcl (nA M 0 v4) fun x1 M1 =>
      f_Law_areMoved_45 O f f v0 v1 v2 v3 v4 v5 v6 x1 (0 : Int32) M1
    ) else
    (aI O M v3 v7).bind fun x2 =>
    (isO O M v0 12).bind fun _ =>
    xcl (f_Calendarhall_begin O f v0 v2 x2 M) fun x3 M2 =>
    (wI M2 v6 v7 x3).bind fun M3 =>
    f_Law_areMoved_9 O f n v0 v1 v2 v3 v4 v5 v6 (v7 + (1 : Int32)) M3
set_option maxRecDepth 20000 in
theorem k_f_Law_areMoved_9 (O : Nat → Option va_E) (f d : Nat) : ∀ (n : Nat) (v0 : Nat) (v1 : Nat) (v2 : Int32) (v3 : Nat) (v4 : Int32) (v5 : Int32) (v6 : Nat) (v7 : Int32) (M : xM), xZ oI O (d + 7) 97 9 [(0, .ref v0), (1, .ref v1), (2, .int v2), (3, .ref v3), (4, .int v4), (5, .int v5), (6, .ref v6), (7, .int v7)] [] M (f_Law_areMoved_9 O f n v0 v1 v2 v3 v4 v5 v6 v7 M) := by
  intro n
  induction n with
  | zero =>
    intro v0 v1 v2 v3 v4 v5 v6 v7 M
    exact xZ.no
  | succ n ih =>
    intro v0 v1 v2 v3 v4 v5 v6 v7 M
    unfold f_Law_areMoved_9
    refine xZ.adv (me := xm97) hP_97 2 (pc' := 13) (lv' := [(0, .ref v0), (1, .ref v1), (2, .int v2), (3, .ref v3), (4, .int v4), (5, .int v5), (6, .ref v6), (7, .int v7)]) (st' := [.int v4, .int v7]) rfl ?_
    refine xZ.ic_ge (me := xm97) hP_97 rfl (fun h1 => ?_) (fun h1 => ?_)
    · skip
      refine xZ.adv (me := xm97) hP_97 1 (pc' := 38) (lv' := [(0, .ref v0), (1, .ref v1), (2, .int v2), (3, .ref v3), (4, .int v4), (5, .int v5), (6, .ref v6), (7, .int v7)]) (st' := [.int v4]) rfl ?_
      refine xZ.k_nA (me := xm97) hP_97 rfl rfl (by decide) (fun x1 M1 => ?_)
      refine xZ.adv (me := xm97) hP_97 3 (pc' := 45) (lv' := [(8, .int (0 : Int32)), (7, .ref x1), (0, .ref v0), (1, .ref v1), (2, .int v2), (3, .ref v3), (4, .int v4), (5, .int v5), (6, .ref v6)]) (st' := []) rfl ?_
      exact xZ.sub (xsc (.tail _ (.tail _ (.head _))) (xsc (.tail _ (.tail _ (.tail _ (.head _)))) (xsc (.tail _ (.tail _ (.tail _ (.tail _ (.head _))))) (xsc (.tail _ (.tail _ (.tail _ (.tail _ (.tail _ (.head _)))))) (xsc (.tail _ (.tail _ (.tail _ (.tail _ (.tail _ (.tail _ (.head _))))))) (xsc (.tail _ (.tail _ (.tail _ (.tail _ (.tail _ (.tail _ (.tail _ (.head _)))))))) (xsc (.tail _ (.tail _ (.tail _ (.tail _ (.tail _ (.tail _ (.tail _ (.tail _ (.head _))))))))) (xsc (.tail _ (.head _)) (xsc (.head _) xsn))))))))) (show ([8, 7, 0, 1, 2, 3, 4, 5, 6] : List Nat).Nodup from by decide) (k_f_Law_areMoved_45 O f d f v0 v1 v2 v3 v4 v5 v6 x1 (0 : Int32) M1)
    · skip
      refine xZ.adv (me := xm97) hP_97 6 (pc' := 25) (lv' := [(0, .ref v0), (1, .ref v1), (2, .int v2), (3, .ref v3), (4, .int v4), (5, .int v5), (6, .ref v6), (7, .int v7)]) (st' := [.int v7, .ref v3, .int v2, .ref v0, .int v7, .ref v6]) rfl ?_
      refine xZ.k_aI (me := xm97) hP_97 rfl (fun x2 => ?_)
      refine xZ.callv (κ := oI) (av := [.int v2, .int x2]) (rest := [.int v7, .ref v6]) (st' := fun x3 => [.int x3, .int v7, .ref v6]) (k0 := v0) (me := xm97) hP_97 rfl (Or.inl rfl) ⟨rfl, by decide⟩ rfl rfl (Nat.le_of_ble_eq_true rfl) (by decide) hP_98 (Nat.le_of_ble_eq_true rfl) (fun _ => rfl) (k_f_Calendarhall_begin O f (d + 1) v0 v2 x2 M) (fun x3 M2 => ?_)
      refine xZ.k_wI (me := xm97) hP_97 rfl (fun M3 => ?_)
      refine xZ.adv (me := xm97) hP_97 2 (pc' := 9) (lv' := [(7, .int (v7 + (1 : Int32))), (0, .ref v0), (1, .ref v1), (2, .int v2), (3, .ref v3), (4, .int v4), (5, .int v5), (6, .ref v6)]) (st' := []) rfl ?_
      exact xZ.sub (xsc (.tail _ (.head _)) (xsc (.tail _ (.tail _ (.head _))) (xsc (.tail _ (.tail _ (.tail _ (.head _)))) (xsc (.tail _ (.tail _ (.tail _ (.tail _ (.head _))))) (xsc (.tail _ (.tail _ (.tail _ (.tail _ (.tail _ (.head _)))))) (xsc (.tail _ (.tail _ (.tail _ (.tail _ (.tail _ (.tail _ (.head _))))))) (xsc (.tail _ (.tail _ (.tail _ (.tail _ (.tail _ (.tail _ (.tail _ (.head _)))))))) (xsc (.head _) xsn)))))))) (show ([7, 0, 1, 2, 3, 4, 5, 6] : List Nat).Nodup from by decide) (ih v0 v1 v2 v3 v4 v5 v6 (v7 + (1 : Int32)) M3)
def f_Law_areMoved (O : Nat → Option va_E) (f : Nat) (v0 : Nat) (v1 : Nat) (v2 : Int32) (v3 : Nat) (v4 : Int32) (v5 : Int32) (M : xM) : Option (Int32 × xM) :=
  xcl (nA M 0 v4) fun x1 M1 =>
  f_Law_areMoved_9 O f f v0 v1 v2 v3 v4 v5 x1 (0 : Int32) M1
set_option maxRecDepth 20000 in
theorem k_f_Law_areMoved (O : Nat → Option va_E) (f d : Nat) (v0 : Nat) (v1 : Nat) (v2 : Int32) (v3 : Nat) (v4 : Int32) (v5 : Int32) (M : xM) : xZ oI O (d + 7) 97 0 [(0, .ref v0), (1, .ref v1), (2, .int v2), (3, .ref v3), (4, .int v4), (5, .int v5)] [] M (f_Law_areMoved O f v0 v1 v2 v3 v4 v5 M) := by
  unfold f_Law_areMoved
  refine xZ.adv (me := xm97) hP_97 1 (pc' := 2) (lv' := [(0, .ref v0), (1, .ref v1), (2, .int v2), (3, .ref v3), (4, .int v4), (5, .int v5)]) (st' := [.int v4]) rfl ?_
  refine xZ.k_nA (me := xm97) hP_97 rfl rfl (by decide) (fun x1 M1 => ?_)
  refine xZ.adv (me := xm97) hP_97 3 (pc' := 9) (lv' := [(7, .int (0 : Int32)), (6, .ref x1), (0, .ref v0), (1, .ref v1), (2, .int v2), (3, .ref v3), (4, .int v4), (5, .int v5)]) (st' := []) rfl ?_
  exact xZ.sub (xsc (.tail _ (.tail _ (.head _))) (xsc (.tail _ (.tail _ (.tail _ (.head _)))) (xsc (.tail _ (.tail _ (.tail _ (.tail _ (.head _))))) (xsc (.tail _ (.tail _ (.tail _ (.tail _ (.tail _ (.head _)))))) (xsc (.tail _ (.tail _ (.tail _ (.tail _ (.tail _ (.tail _ (.head _))))))) (xsc (.tail _ (.tail _ (.tail _ (.tail _ (.tail _ (.tail _ (.tail _ (.head _)))))))) (xsc (.tail _ (.head _)) (xsc (.head _) xsn)))))))) (show ([7, 6, 0, 1, 2, 3, 4, 5] : List Nat).Nodup from by decide) (k_f_Law_areMoved_9 O f d f v0 v1 v2 v3 v4 v5 x1 (0 : Int32) M1)
