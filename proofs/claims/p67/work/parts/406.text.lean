/-! ===== texts ===== -/
def f_Dates_dayIn (O : Nat → Option va_E) (f : Nat) (v0 : Int64) (M : xM) : Option (Int32 × xM) :=
  some (((Int64.toInt32 (v0 >>> (Int32.toInt64 (1 : Int32) &&& 63))) &&& (262143 : Int32)), M)
set_option maxRecDepth 20000 in
theorem k_f_Dates_dayIn (O : Nat → Option va_E) (f d : Nat) (v0 : Int64) (M : xM) : xZ oI O (d + 0) 123 0 [(0, .long v0)] [] M (f_Dates_dayIn O f v0 M) := by
  unfold f_Dates_dayIn
  refine xZ.adv (me := xm123) hP_123 6 (pc' := 7) (lv' := [(0, .long v0)]) (st' := [.int ((Int64.toInt32 (v0 >>> (Int32.toInt64 (1 : Int32) &&& 63))) &&& (262143 : Int32))]) rfl ?_
  exact xZ.reti (me := xm123) hP_123 rfl rfl
def f_Calendarhall_nextDate (O : Nat → Option va_E) (f : Nat) (v0 : Nat) (v1 : Int32) (v2 : Int32) (M : xM) : Option (Int32 × xM) :=
  (isO O M v0 12).bind fun _ =>
  xcl (f_Calendarhall_seriesNumbered O f v0 v1 M) fun x1 M1 =>
  xcl (f_Calendarhall_needMinute O f v2 M1) fun _ M2 =>
  (gR O M2 v0 12 0).bind fun x3 =>
  (isO O M2 x3 4).bind fun _ =>
  xcl (f_Hall_zoneOf O f x3 x1 M2) fun x4 M3 =>
  (isO O M3 x1 10).bind fun _ =>
  xcl (f_Series_firstRow O f x1 x4 v2 M3) fun x5 M4 =>
  if (lg_cmp x5 (-1 : Int64)) = 0 then (
    some ((-1 : Int32), M4)
  ) else
  xcl (f_Dates_dayIn O f x5 M4) fun x6 M5 =>
  some (x6, M5)
set_option maxRecDepth 20000 in
theorem k_f_Calendarhall_nextDate (O : Nat → Option va_E) (f d : Nat) (v0 : Nat) (v1 : Int32) (v2 : Int32) (M : xM) : xZ oI O (d + 6) 120 0 [(0, .ref v0), (1, .int v1), (2, .int v2)] [] M (f_Calendarhall_nextDate O f v0 v1 v2 M) := by
  unfold f_Calendarhall_nextDate
  refine xZ.adv (me := xm120) hP_120 2 (pc' := 2) (lv' := [(0, .ref v0), (1, .int v1), (2, .int v2)]) (st' := [.int v1, .ref v0]) rfl ?_
  refine xZ.callv (κ := oR) (av := [.int v1]) (rest := []) (st' := fun x1 => [.ref x1]) (k0 := v0) (me := xm120) hP_120 rfl (Or.inl rfl) ⟨rfl, by decide⟩ rfl rfl (Nat.le_of_ble_eq_true rfl) (by decide) hP_79 (Nat.le_of_ble_eq_true rfl) (fun _ => rfl) (k_f_Calendarhall_seriesNumbered O f (d + 4) v0 v1 M) (fun x1 M1 => ?_)
  refine xZ.adv (me := xm120) hP_120 2 (pc' := 7) (lv' := [(3, .ref x1), (0, .ref v0), (1, .int v1), (2, .int v2)]) (st' := [.int v2]) rfl ?_
  refine xZ.calls (κ := oU) (av := [.int v2]) (rest := []) (st' := fun _ => []) (me := xm120) hP_120 rfl rfl rfl (Nat.le_of_ble_eq_true rfl) (by decide) hP_115 (Nat.le_of_ble_eq_true rfl) (fun _ => rfl) (k_f_Calendarhall_needMinute O f (d + 5) v2 M1) (fun _ M2 => ?_)
  refine xZ.adv (me := xm120) hP_120 2 (pc' := 12) (lv' := [(3, .ref x1), (0, .ref v0), (1, .int v1), (2, .int v2)]) (st' := [.ref v0, .ref x1]) rfl ?_
  refine xZ.k_gR (me := xm120) hP_120 rfl (fun x3 => ?_)
  refine xZ.adv (me := xm120) hP_120 1 (pc' := 16) (lv' := [(3, .ref x1), (0, .ref v0), (1, .int v1), (2, .int v2)]) (st' := [.ref x1, .ref x3, .ref x1]) rfl ?_
  refine xZ.callv (κ := oR) (av := [.ref x1]) (rest := [.ref x1]) (st' := fun x4 => [.ref x4, .ref x1]) (k0 := x3) (me := xm120) hP_120 rfl (Or.inl rfl) ⟨rfl, by decide⟩ rfl rfl (Nat.le_of_ble_eq_true rfl) (by decide) hP_102 (Nat.le_of_ble_eq_true rfl) (fun _ => rfl) (k_f_Hall_zoneOf O f (d + 4) x3 x1 M2) (fun x4 M3 => ?_)
  refine xZ.adv (me := xm120) hP_120 1 (pc' := 20) (lv' := [(3, .ref x1), (0, .ref v0), (1, .int v1), (2, .int v2)]) (st' := [.int v2, .ref x4, .ref x1]) rfl ?_
  refine xZ.callv (κ := oL) (av := [.ref x4, .int v2]) (rest := []) (st' := fun x5 => [.long x5]) (k0 := x1) (me := xm120) hP_120 rfl (Or.inl rfl) ⟨rfl, by decide⟩ rfl rfl (Nat.le_of_ble_eq_true rfl) (by decide) hP_121 (Nat.le_of_ble_eq_true rfl) (fun _ => rfl) (k_f_Series_firstRow O f (d + 0) x1 x4 v2 M3) (fun x5 M4 => ?_)
  refine xZ.adv (me := xm120) hP_120 4 (pc' := 31) (lv' := [(4, .long x5), (3, .ref x1), (0, .ref v0), (1, .int v1), (2, .int v2)]) (st' := [.int (lg_cmp x5 (-1 : Int64))]) rfl ?_
  refine xZ.if_ne (me := xm120) hP_120 rfl (fun h1 => ?_) (fun h1 => ?_)
  · skip
    refine xZ.adv (me := xm120) hP_120 2 (pc' := 43) (lv' := [(4, .long x5), (3, .ref x1), (0, .ref v0), (1, .int v1), (2, .int v2)]) (st' := [.int (-1 : Int32)]) rfl ?_
    exact xZ.reti (me := xm120) hP_120 rfl rfl
  · skip
    refine xZ.adv (me := xm120) hP_120 1 (pc' := 40) (lv' := [(4, .long x5), (3, .ref x1), (0, .ref v0), (1, .int v1), (2, .int v2)]) (st' := [.long x5]) rfl ?_
    refine xZ.calls (κ := oI) (av := [.long x5]) (rest := []) (st' := fun x6 => [.int x6]) (me := xm120) hP_120 rfl rfl rfl (Nat.le_of_ble_eq_true rfl) (by decide) hP_123 (Nat.le_of_ble_eq_true rfl) (fun _ => rfl) (k_f_Dates_dayIn O f (d + 5) x5 M4) (fun x6 M5 => ?_)
    exact xZ.reti (me := xm120) hP_120 rfl rfl
def f_Calendarhall_undo_87 (O : Nat → Option va_E) (f : Nat) (v0 : Nat) (M : xM) : Option (Int32 × xM) :=
  (gI O M v0 12 3).bind fun x1 =>
  some (x1, M)
set_option maxRecDepth 20000 in
theorem k_f_Calendarhall_undo_87 (O : Nat → Option va_E) (f d : Nat) (v0 : Nat) (M : xM) : xZ oI O (d + 4) 124 87 [(0, .ref v0)] [] M (f_Calendarhall_undo_87 O f v0 M) := by
  unfold f_Calendarhall_undo_87
  refine xZ.adv (me := xm124) hP_124 1 (pc' := 88) (lv' := [(0, .ref v0)]) (st' := [.ref v0]) rfl ?_
  refine xZ.k_gI (me := xm124) hP_124 rfl (fun x1 => ?_)
  exact xZ.reti (me := xm124) hP_124 rfl rfl
def f_Calendarhall_undo_74 (O : Nat → Option va_E) (f : Nat) (v0 : Nat) (s0 : Option Nat) (M : xM) : Option (Int32 × xM) :=
  Option.elim s0 (
    f_Calendarhall_undo_87 O f v0 M
  ) fun x1 =>
    (gR O M v0 12 0).bind fun x2 =>
    (isO O M x2 4).bind fun _ =>
    xcl (f_Hall_copyFrom O f x2 x1 M) fun _ M1 =>
    f_Calendarhall_undo_87 O f v0 M1
set_option maxRecDepth 20000 in
theorem k_f_Calendarhall_undo_74 (O : Nat → Option va_E) (f d : Nat) (v0 : Nat) (s0 : Option Nat) (M : xM) : xZ oI O (d + 4) 124 74 [(0, .ref v0)] [va_rf s0] M (f_Calendarhall_undo_74 O f v0 s0 M) := by
  unfold f_Calendarhall_undo_74
  refine xZ.oc (x := s0) (lvf := fun _ => [(0, .ref v0)]) (stf := fun xo => [va_rf xo]) ?_ (fun x1 => ?_)
  · skip
    refine xZ.adv (me := xm124) hP_124 2 (pc' := 76) (lv' := [(1, .null), (0, .ref v0)]) (st' := [.null]) rfl ?_
    refine xZ.one (pc' := 87) (lv' := [(1, .null), (0, .ref v0)]) (st' := []) (me := xm124) hP_124 rfl rfl ?_
    exact xZ.sub (xsc (.tail _ (.head _)) xsn) (show ([1, 0] : List Nat).Nodup from by decide) (k_f_Calendarhall_undo_87 O f d v0 M)
  · skip
    refine xZ.adv (me := xm124) hP_124 2 (pc' := 76) (lv' := [(1, .ref x1), (0, .ref v0)]) (st' := [.ref x1]) rfl ?_
    refine xZ.one (pc' := 79) (lv' := [(1, .ref x1), (0, .ref v0)]) (st' := []) (me := xm124) hP_124 rfl rfl ?_
    refine xZ.adv (me := xm124) hP_124 1 (pc' := 80) (lv' := [(1, .ref x1), (0, .ref v0)]) (st' := [.ref v0]) rfl ?_
    refine xZ.k_gR (me := xm124) hP_124 rfl (fun x2 => ?_)
    refine xZ.adv (me := xm124) hP_124 1 (pc' := 84) (lv' := [(1, .ref x1), (0, .ref v0)]) (st' := [.ref x1, .ref x2]) rfl ?_
    refine xZ.callv (κ := oU) (av := [.ref x1]) (rest := []) (st' := fun _ => []) (k0 := x2) (me := xm124) hP_124 rfl (Or.inl rfl) ⟨rfl, by decide⟩ rfl rfl (Nat.le_of_ble_eq_true rfl) (by decide) hP_24 (Nat.le_of_ble_eq_true rfl) (fun _ => rfl) (k_f_Hall_copyFrom O f (d + 0) x2 x1 M) (fun _ M1 => ?_)
    exact xZ.sub (xsc (.tail _ (.head _)) xsn) (show ([1, 0] : List Nat).Nodup from by decide) (k_f_Calendarhall_undo_87 O f d v0 M1)
def f_Calendarhall_undo_46 (O : Nat → Option va_E) (f : Nat) (v0 : Nat) (s0 : Nat) (s1 : Int32) (M : xM) : Option (Int32 × xM) :=
  (pI M s0 12 2 s1).bind fun M1 =>
  (gI O M1 v0 12 2).bind fun x1 =>
  (gR O M1 v0 12 1).bind fun x2 =>
  (aN O M1 x2).bind fun x3 =>
  if x3 ≤ x1 then (
    f_Calendarhall_undo_74 O f v0 none M1
  ) else
  (gR O M1 v0 12 1).bind fun x4 =>
  (gI O M1 v0 12 2).bind fun x5 =>
  (aR O M1 x4 x5).bind fun x6 =>
  f_Calendarhall_undo_74 O f v0 (some x6) M1
set_option maxRecDepth 20000 in
theorem k_f_Calendarhall_undo_46 (O : Nat → Option va_E) (f d : Nat) (v0 : Nat) (s0 : Nat) (s1 : Int32) (M : xM) : xZ oI O (d + 4) 124 46 [(0, .ref v0)] [.int s1, .ref s0] M (f_Calendarhall_undo_46 O f v0 s0 s1 M) := by
  unfold f_Calendarhall_undo_46
  refine xZ.k_pI (me := xm124) hP_124 rfl (fun M1 => ?_)
  refine xZ.adv (me := xm124) hP_124 1 (pc' := 50) (lv' := [(0, .ref v0)]) (st' := [.ref v0]) rfl ?_
  refine xZ.k_gI (me := xm124) hP_124 rfl (fun x1 => ?_)
  refine xZ.adv (me := xm124) hP_124 1 (pc' := 54) (lv' := [(0, .ref v0)]) (st' := [.ref v0, .int x1]) rfl ?_
  refine xZ.k_gR (me := xm124) hP_124 rfl (fun x2 => ?_)
  refine xZ.k_aN (me := xm124) hP_124 rfl (fun x3 => ?_)
  refine xZ.ic_ge (me := xm124) hP_124 rfl (fun h1 => ?_) (fun h1 => ?_)
  · skip
    refine xZ.adv (me := xm124) hP_124 1 (pc' := 74) (lv' := [(0, .ref v0)]) (st' := [.null]) rfl ?_
    exact (k_f_Calendarhall_undo_74 O f d v0 none M1)
  · skip
    refine xZ.adv (me := xm124) hP_124 1 (pc' := 62) (lv' := [(0, .ref v0)]) (st' := [.ref v0]) rfl ?_
    refine xZ.k_gR (me := xm124) hP_124 rfl (fun x4 => ?_)
    refine xZ.adv (me := xm124) hP_124 1 (pc' := 66) (lv' := [(0, .ref v0)]) (st' := [.ref v0, .ref x4]) rfl ?_
    refine xZ.k_gI (me := xm124) hP_124 rfl (fun x5 => ?_)
    refine xZ.k_aR (me := xm124) hP_124 rfl (fun x6 => ?_)
    refine xZ.adv (me := xm124) hP_124 1 (pc' := 74) (lv' := [(0, .ref v0)]) (st' := [.ref x6]) rfl ?_
    exact (k_f_Calendarhall_undo_74 O f d v0 (some x6) M1)
def f_Calendarhall_undo (O : Nat → Option va_E) (f : Nat) (v0 : Nat) (M : xM) : Option (Int32 × xM) :=
  (gI O M v0 12 3).bind fun x1 =>
  if (1 : Int32) ≤ x1 then (
    (gI O M v0 12 3).bind fun x2 =>
    (pI M v0 12 3 (x2 - (1 : Int32))).bind fun M1 =>
    (gI O M1 v0 12 2).bind fun x3 =>
    if (1 : Int32) ≤ x3 then (
      (gI O M1 v0 12 2).bind fun x4 =>
      f_Calendarhall_undo_46 O f v0 v0 (x4 - (1 : Int32)) M1
    ) else
    f_Calendarhall_undo_46 O f v0 v0 (7 : Int32) M1
  ) else
  none
set_option maxRecDepth 20000 in
theorem k_f_Calendarhall_undo (O : Nat → Option va_E) (f d : Nat) (v0 : Nat) (M : xM) : xZ oI O (d + 4) 124 0 [(0, .ref v0)] [] M (f_Calendarhall_undo O f v0 M) := by
  unfold f_Calendarhall_undo
  refine xZ.adv (me := xm124) hP_124 1 (pc' := 1) (lv' := [(0, .ref v0)]) (st' := [.ref v0]) rfl ?_
  refine xZ.k_gI (me := xm124) hP_124 rfl (fun x1 => ?_)
  refine xZ.adv (me := xm124) hP_124 1 (pc' := 5) (lv' := [(0, .ref v0)]) (st' := [.int (1 : Int32), .int x1]) rfl ?_
  refine xZ.ic_ge (me := xm124) hP_124 rfl (fun h1 => ?_) (fun h1 => ?_)
  · skip
    refine xZ.adv (me := xm124) hP_124 2 (pc' := 18) (lv' := [(0, .ref v0)]) (st' := [.ref v0, .ref v0]) rfl ?_
    refine xZ.k_gI (me := xm124) hP_124 rfl (fun x2 => ?_)
    refine xZ.adv (me := xm124) hP_124 2 (pc' := 23) (lv' := [(0, .ref v0)]) (st' := [.int (x2 - (1 : Int32)), .ref v0]) rfl ?_
    refine xZ.k_pI (me := xm124) hP_124 rfl (fun M1 => ?_)
    refine xZ.adv (me := xm124) hP_124 2 (pc' := 28) (lv' := [(0, .ref v0)]) (st' := [.ref v0, .ref v0]) rfl ?_
    refine xZ.k_gI (me := xm124) hP_124 rfl (fun x3 => ?_)
    refine xZ.adv (me := xm124) hP_124 1 (pc' := 32) (lv' := [(0, .ref v0)]) (st' := [.int (1 : Int32), .int x3, .ref v0]) rfl ?_
    refine xZ.ic_ge (me := xm124) hP_124 rfl (fun h2 => ?_) (fun h2 => ?_)
    · skip
      refine xZ.adv (me := xm124) hP_124 1 (pc' := 41) (lv' := [(0, .ref v0)]) (st' := [.ref v0, .ref v0]) rfl ?_
      refine xZ.k_gI (me := xm124) hP_124 rfl (fun x4 => ?_)
      refine xZ.adv (me := xm124) hP_124 2 (pc' := 46) (lv' := [(0, .ref v0)]) (st' := [.int (x4 - (1 : Int32)), .ref v0]) rfl ?_
      exact (k_f_Calendarhall_undo_46 O f d v0 v0 (x4 - (1 : Int32)) M1)
    · skip
      refine xZ.adv (me := xm124) hP_124 2 (pc' := 46) (lv' := [(0, .ref v0)]) (st' := [.int (7 : Int32), .ref v0]) rfl ?_
      exact (k_f_Calendarhall_undo_46 O f d v0 v0 (7 : Int32) M1)
  · skip
    exact xZ.no
def f_Law_areMoved_161 (O : Nat → Option va_E) (f : Nat) (K85 : Nat → Nat → Int32 → Nat → Int32 → Int32 → Nat → Nat → Int32 → Int32 → xM → Option (Int32 × xM)) : Nat → Nat → Nat → Int32 → Nat → Int32 → Int32 → Nat → Nat → Int32 → Int32 → Int32 → xM → Option (Int32 × xM)
  | 0, _, _, _, _, _, _, _, _, _, _, _, _ => none
  | n + 1, v0, v1, v2, v3, v4, v5, v6, v7, v8, v9, v11, M =>
    if v4 ≤ v11 then (
      K85 v0 v1 v2 v3 v4 v5 v6 v7 v8 (v9 + (1 : Int32)) M
    ) else
    (aI O M v3 v11).bind fun x1 =>
    (isO O M v0 12).bind fun _ =>
    xcl (f_Calendarhall_begin O f v0 v2 x1 M) fun x2 M1 =>
    (aI O M1 v7 v11).bind fun x3 =>
    if x2 = x3 then (
      f_Law_areMoved_161 O f K85 n v0 v1 v2 v3 v4 v5 v6 v7 v8 v9 (v11 + (1 : Int32)) M1
    ) else
    some ((0 : Int32), M1)
set_option maxRecDepth 20000 in
theorem k_f_Law_areMoved_161 (O : Nat → Option va_E) (f d : Nat) (K85 : Nat → Nat → Int32 → Nat → Int32 → Int32 → Nat → Nat → Int32 → Int32 → xM → Option (Int32 × xM)) (hK85 : ∀ (v0 : Nat) (v1 : Nat) (v2 : Int32) (v3 : Nat) (v4 : Int32) (v5 : Int32) (v6 : Nat) (v7 : Nat) (v8 : Int32) (v9 : Int32) M, xZ oI O (d + 7) 97 85 [(0, .ref v0), (1, .ref v1), (2, .int v2), (3, .ref v3), (4, .int v4), (5, .int v5), (6, .ref v6), (7, .ref v7), (8, .int v8), (9, .int v9)] [] M (K85 v0 v1 v2 v3 v4 v5 v6 v7 v8 v9 M)) : ∀ (n : Nat) (v0 : Nat) (v1 : Nat) (v2 : Int32) (v3 : Nat) (v4 : Int32) (v5 : Int32) (v6 : Nat) (v7 : Nat) (v8 : Int32) (v9 : Int32) (v11 : Int32) (M : xM), xZ oI O (d + 7) 97 161 [(0, .ref v0), (1, .ref v1), (2, .int v2), (3, .ref v3), (4, .int v4), (5, .int v5), (6, .ref v6), (7, .ref v7), (8, .int v8), (9, .int v9), (11, .int v11)] [] M (f_Law_areMoved_161 O f K85 n v0 v1 v2 v3 v4 v5 v6 v7 v8 v9 v11 M) := by
  intro n
  induction n with
  | zero =>
    intro v0 v1 v2 v3 v4 v5 v6 v7 v8 v9 v11 M
    exact xZ.no
  | succ n ih =>
    intro v0 v1 v2 v3 v4 v5 v6 v7 v8 v9 v11 M
    unfold f_Law_areMoved_161
    refine xZ.adv (me := xm97) hP_97 2 (pc' := 165) (lv' := [(0, .ref v0), (1, .ref v1), (2, .int v2), (3, .ref v3), (4, .int v4), (5, .int v5), (6, .ref v6), (7, .ref v7), (8, .int v8), (9, .int v9), (11, .int v11)]) (st' := [.int v4, .int v11]) rfl ?_
    refine xZ.ic_ge (me := xm97) hP_97 rfl (fun h1 => ?_) (fun h1 => ?_)
    · skip
      refine xZ.adv (me := xm97) hP_97 2 (pc' := 85) (lv' := [(9, .int (v9 + (1 : Int32))), (0, .ref v0), (1, .ref v1), (2, .int v2), (3, .ref v3), (4, .int v4), (5, .int v5), (6, .ref v6), (7, .ref v7), (8, .int v8), (11, .int v11)]) (st' := []) rfl ?_
      exact xZ.sub (xsc (.tail _ (.head _)) (xsc (.tail _ (.tail _ (.head _))) (xsc (.tail _ (.tail _ (.tail _ (.head _)))) (xsc (.tail _ (.tail _ (.tail _ (.tail _ (.head _))))) (xsc (.tail _ (.tail _ (.tail _ (.tail _ (.tail _ (.head _)))))) (xsc (.tail _ (.tail _ (.tail _ (.tail _ (.tail _ (.tail _ (.head _))))))) (xsc (.tail _ (.tail _ (.tail _ (.tail _ (.tail _ (.tail _ (.tail _ (.head _)))))))) (xsc (.tail _ (.tail _ (.tail _ (.tail _ (.tail _ (.tail _ (.tail _ (.tail _ (.head _))))))))) (xsc (.tail _ (.tail _ (.tail _ (.tail _ (.tail _ (.tail _ (.tail _ (.tail _ (.tail _ (.head _)))))))))) (xsc (.head _) xsn)))))))))) (show ([9, 0, 1, 2, 3, 4, 5, 6, 7, 8, 11] : List Nat).Nodup from by decide) (hK85 v0 v1 v2 v3 v4 v5 v6 v7 v8 (v9 + (1 : Int32)) M)
    · skip
      refine xZ.adv (me := xm97) hP_97 4 (pc' := 173) (lv' := [(0, .ref v0), (1, .ref v1), (2, .int v2), (3, .ref v3), (4, .int v4), (5, .int v5), (6, .ref v6), (7, .ref v7), (8, .int v8), (9, .int v9), (11, .int v11)]) (st' := [.int v11, .ref v3, .int v2, .ref v0]) rfl ?_
      refine xZ.k_aI (me := xm97) hP_97 rfl (fun x1 => ?_)
      refine xZ.callv (κ := oI) (av := [.int v2, .int x1]) (rest := []) (st' := fun x2 => [.int x2]) (k0 := v0) (me := xm97) hP_97 rfl (Or.inl rfl) ⟨rfl, by decide⟩ rfl rfl (Nat.le_of_ble_eq_true rfl) (by decide) hP_98 (Nat.le_of_ble_eq_true rfl) (fun _ => rfl) (k_f_Calendarhall_begin O f (d + 1) v0 v2 x1 M) (fun x2 M1 => ?_)
      refine xZ.adv (me := xm97) hP_97 2 (pc' := 181) (lv' := [(0, .ref v0), (1, .ref v1), (2, .int v2), (3, .ref v3), (4, .int v4), (5, .int v5), (6, .ref v6), (7, .ref v7), (8, .int v8), (9, .int v9), (11, .int v11)]) (st' := [.int v11, .ref v7, .int x2]) rfl ?_
      refine xZ.k_aI (me := xm97) hP_97 rfl (fun x3 => ?_)
      refine xZ.ic_eq (me := xm97) hP_97 rfl (fun h2 => ?_) (fun h2 => ?_)
      · skip
        refine xZ.adv (me := xm97) hP_97 2 (pc' := 161) (lv' := [(11, .int (v11 + (1 : Int32))), (0, .ref v0), (1, .ref v1), (2, .int v2), (3, .ref v3), (4, .int v4), (5, .int v5), (6, .ref v6), (7, .ref v7), (8, .int v8), (9, .int v9)]) (st' := []) rfl ?_
        exact xZ.sub (xsc (.tail _ (.head _)) (xsc (.tail _ (.tail _ (.head _))) (xsc (.tail _ (.tail _ (.tail _ (.head _)))) (xsc (.tail _ (.tail _ (.tail _ (.tail _ (.head _))))) (xsc (.tail _ (.tail _ (.tail _ (.tail _ (.tail _ (.head _)))))) (xsc (.tail _ (.tail _ (.tail _ (.tail _ (.tail _ (.tail _ (.head _))))))) (xsc (.tail _ (.tail _ (.tail _ (.tail _ (.tail _ (.tail _ (.tail _ (.head _)))))))) (xsc (.tail _ (.tail _ (.tail _ (.tail _ (.tail _ (.tail _ (.tail _ (.tail _ (.head _))))))))) (xsc (.tail _ (.tail _ (.tail _ (.tail _ (.tail _ (.tail _ (.tail _ (.tail _ (.tail _ (.head _)))))))))) (xsc (.tail _ (.tail _ (.tail _ (.tail _ (.tail _ (.tail _ (.tail _ (.tail _ (.tail _ (.tail _ (.head _))))))))))) (xsc (.head _) xsn))))))))))) (show ([11, 0, 1, 2, 3, 4, 5, 6, 7, 8, 9] : List Nat).Nodup from by decide) (ih v0 v1 v2 v3 v4 v5 v6 v7 v8 v9 (v11 + (1 : Int32)) M1)
      · skip
        refine xZ.adv (me := xm97) hP_97 1 (pc' := 186) (lv' := [(0, .ref v0), (1, .ref v1), (2, .int v2), (3, .ref v3), (4, .int v4), (5, .int v5), (6, .ref v6), (7, .ref v7), (8, .int v8), (9, .int v9), (11, .int v11)]) (st' := [.int (0 : Int32)]) rfl ?_
        exact xZ.rete (me := xm97) hP_97 rfl rfl rfl
def f_Law_areMoved_158 (O : Nat → Option va_E) (f : Nat) (K85 : Nat → Nat → Int32 → Nat → Int32 → Int32 → Nat → Nat → Int32 → Int32 → xM → Option (Int32 × xM)) (v0 : Nat) (v1 : Nat) (v2 : Int32) (v3 : Nat) (v4 : Int32) (v5 : Int32) (v6 : Nat) (v7 : Nat) (v8 : Int32) (v9 : Int32) (M : xM) : Option (Int32 × xM) :=
  f_Law_areMoved_161 O f K85 f v0 v1 v2 v3 v4 v5 v6 v7 v8 v9 (0 : Int32) M
set_option maxRecDepth 20000 in
theorem k_f_Law_areMoved_158 (O : Nat → Option va_E) (f d : Nat) (K85 : Nat → Nat → Int32 → Nat → Int32 → Int32 → Nat → Nat → Int32 → Int32 → xM → Option (Int32 × xM)) (hK85 : ∀ (v0 : Nat) (v1 : Nat) (v2 : Int32) (v3 : Nat) (v4 : Int32) (v5 : Int32) (v6 : Nat) (v7 : Nat) (v8 : Int32) (v9 : Int32) M, xZ oI O (d + 7) 97 85 [(0, .ref v0), (1, .ref v1), (2, .int v2), (3, .ref v3), (4, .int v4), (5, .int v5), (6, .ref v6), (7, .ref v7), (8, .int v8), (9, .int v9)] [] M (K85 v0 v1 v2 v3 v4 v5 v6 v7 v8 v9 M)) (v0 : Nat) (v1 : Nat) (v2 : Int32) (v3 : Nat) (v4 : Int32) (v5 : Int32) (v6 : Nat) (v7 : Nat) (v8 : Int32) (v9 : Int32) (M : xM) : xZ oI O (d + 7) 97 158 [(0, .ref v0), (1, .ref v1), (2, .int v2), (3, .ref v3), (4, .int v4), (5, .int v5), (6, .ref v6), (7, .ref v7), (8, .int v8), (9, .int v9)] [] M (f_Law_areMoved_158 O f K85 v0 v1 v2 v3 v4 v5 v6 v7 v8 v9 M) := by
  unfold f_Law_areMoved_158
  refine xZ.adv (me := xm97) hP_97 2 (pc' := 161) (lv' := [(11, .int (0 : Int32)), (0, .ref v0), (1, .ref v1), (2, .int v2), (3, .ref v3), (4, .int v4), (5, .int v5), (6, .ref v6), (7, .ref v7), (8, .int v8), (9, .int v9)]) (st' := []) rfl ?_
  exact xZ.sub (xsc (.tail _ (.head _)) (xsc (.tail _ (.tail _ (.head _))) (xsc (.tail _ (.tail _ (.tail _ (.head _)))) (xsc (.tail _ (.tail _ (.tail _ (.tail _ (.head _))))) (xsc (.tail _ (.tail _ (.tail _ (.tail _ (.tail _ (.head _)))))) (xsc (.tail _ (.tail _ (.tail _ (.tail _ (.tail _ (.tail _ (.head _))))))) (xsc (.tail _ (.tail _ (.tail _ (.tail _ (.tail _ (.tail _ (.tail _ (.head _)))))))) (xsc (.tail _ (.tail _ (.tail _ (.tail _ (.tail _ (.tail _ (.tail _ (.tail _ (.head _))))))))) (xsc (.tail _ (.tail _ (.tail _ (.tail _ (.tail _ (.tail _ (.tail _ (.tail _ (.tail _ (.head _)))))))))) (xsc (.tail _ (.tail _ (.tail _ (.tail _ (.tail _ (.tail _ (.tail _ (.tail _ (.tail _ (.tail _ (.head _))))))))))) (xsc (.head _) xsn))))))))))) (show ([11, 0, 1, 2, 3, 4, 5, 6, 7, 8, 9] : List Nat).Nodup from by decide) (k_f_Law_areMoved_161 O f d K85 hK85 f v0 v1 v2 v3 v4 v5 v6 v7 v8 v9 (0 : Int32) M)
def f_Law_areMoved_375 (O : Nat → Option va_E) (f : Nat) : Nat → Nat → Int32 → Nat → Int32 → Nat → Int32 → xM → Option (Int32 × xM)
  | 0, _, _, _, _, _, _, _ => none
  | n + 1, v0, v2, v3, v4, v6, v13, M =>
    if v4 ≤ v13 then (
      some ((1 : Int32), M)
    ) else
    (aI O M v3 v13).bind fun x1 =>
    (isO O M v0 12).bind fun _ =>
    xcl (f_Calendarhall_begin O f v0 v2 x1 M) fun x2 M1 =>
    (aI O M1 v6 v13).bind fun x3 =>
    if x2 = x3 then (
      f_Law_areMoved_375 O f n v0 v2 v3 v4 v6 (v13 + (1 : Int32)) M1
    ) else
    some ((0 : Int32), M1)
set_option maxRecDepth 20000 in
theorem k_f_Law_areMoved_375 (O : Nat → Option va_E) (f d : Nat) : ∀ (n : Nat) (v0 : Nat) (v2 : Int32) (v3 : Nat) (v4 : Int32) (v6 : Nat) (v13 : Int32) (M : xM), xZ oI O (d + 7) 97 375 [(0, .ref v0), (2, .int v2), (3, .ref v3), (4, .int v4), (6, .ref v6), (13, .int v13)] [] M (f_Law_areMoved_375 O f n v0 v2 v3 v4 v6 v13 M) := by
  intro n
  induction n with
  | zero =>
    intro v0 v2 v3 v4 v6 v13 M
    exact xZ.no
  | succ n ih =>
    intro v0 v2 v3 v4 v6 v13 M
    unfold f_Law_areMoved_375
    refine xZ.adv (me := xm97) hP_97 2 (pc' := 379) (lv' := [(0, .ref v0), (2, .int v2), (3, .ref v3), (4, .int v4), (6, .ref v6), (13, .int v13)]) (st' := [.int v4, .int v13]) rfl ?_
    refine xZ.ic_ge (me := xm97) hP_97 rfl (fun h1 => ?_) (fun h1 => ?_)
    · skip
      refine xZ.adv (me := xm97) hP_97 1 (pc' := 408) (lv' := [(0, .ref v0), (2, .int v2), (3, .ref v3), (4, .int v4), (6, .ref v6), (13, .int v13)]) (st' := [.int (1 : Int32)]) rfl ?_
      exact xZ.rete (me := xm97) hP_97 rfl rfl rfl
    · skip
      refine xZ.adv (me := xm97) hP_97 4 (pc' := 387) (lv' := [(0, .ref v0), (2, .int v2), (3, .ref v3), (4, .int v4), (6, .ref v6), (13, .int v13)]) (st' := [.int v13, .ref v3, .int v2, .ref v0]) rfl ?_
      refine xZ.k_aI (me := xm97) hP_97 rfl (fun x1 => ?_)
      refine xZ.callv (κ := oI) (av := [.int v2, .int x1]) (rest := []) (st' := fun x2 => [.int x2]) (k0 := v0) (me := xm97) hP_97 rfl (Or.inl rfl) ⟨rfl, by decide⟩ rfl rfl (Nat.le_of_ble_eq_true rfl) (by decide) hP_98 (Nat.le_of_ble_eq_true rfl) (fun _ => rfl) (k_f_Calendarhall_begin O f (d + 1) v0 v2 x1 M) (fun x2 M1 => ?_)
      refine xZ.adv (me := xm97) hP_97 2 (pc' := 395) (lv' := [(0, .ref v0), (2, .int v2), (3, .ref v3), (4, .int v4), (6, .ref v6), (13, .int v13)]) (st' := [.int v13, .ref v6, .int x2]) rfl ?_
      refine xZ.k_aI (me := xm97) hP_97 rfl (fun x3 => ?_)
      refine xZ.ic_eq (me := xm97) hP_97 rfl (fun h2 => ?_) (fun h2 => ?_)
      · skip
        refine xZ.adv (me := xm97) hP_97 2 (pc' := 375) (lv' := [(13, .int (v13 + (1 : Int32))), (0, .ref v0), (2, .int v2), (3, .ref v3), (4, .int v4), (6, .ref v6)]) (st' := []) rfl ?_
        exact xZ.sub (xsc (.tail _ (.head _)) (xsc (.tail _ (.tail _ (.head _))) (xsc (.tail _ (.tail _ (.tail _ (.head _)))) (xsc (.tail _ (.tail _ (.tail _ (.tail _ (.head _))))) (xsc (.tail _ (.tail _ (.tail _ (.tail _ (.tail _ (.head _)))))) (xsc (.head _) xsn)))))) (show ([13, 0, 2, 3, 4, 6] : List Nat).Nodup from by decide) (ih v0 v2 v3 v4 v6 (v13 + (1 : Int32)) M1)
      · skip
        refine xZ.adv (me := xm97) hP_97 1 (pc' := 400) (lv' := [(0, .ref v0), (2, .int v2), (3, .ref v3), (4, .int v4), (6, .ref v6), (13, .int v13)]) (st' := [.int (0 : Int32)]) rfl ?_
        exact xZ.rete (me := xm97) hP_97 rfl rfl rfl
def f_Law_areMoved_354 (O : Nat → Option va_E) (f : Nat) : Nat → Nat → Int32 → Nat → Int32 → Nat → Int32 → Int32 → xM → Option (Int32 × xM)
  | 0, _, _, _, _, _, _, _, _ => none
  | n + 1, v0, v2, v3, v4, v6, v8, v13, M =>
    if v8 ≤ v13 then (
      f_Law_areMoved_375 O f f v0 v2 v3 v4 v6 (0 : Int32) M
    ) else
    (isO O M v0 12).bind fun _ =>
    xcl (f_Calendarhall_undo O f v0 M) fun x1 M1 =>
    f_Law_areMoved_354 O f n v0 v2 v3 v4 v6 v8 (v13 + (1 : Int32)) M1
set_option maxRecDepth 20000 in
theorem k_f_Law_areMoved_354 (O : Nat → Option va_E) (f d : Nat) : ∀ (n : Nat) (v0 : Nat) (v2 : Int32) (v3 : Nat) (v4 : Int32) (v6 : Nat) (v8 : Int32) (v13 : Int32) (M : xM), xZ oI O (d + 7) 97 354 [(0, .ref v0), (2, .int v2), (3, .ref v3), (4, .int v4), (6, .ref v6), (8, .int v8), (13, .int v13)] [] M (f_Law_areMoved_354 O f n v0 v2 v3 v4 v6 v8 v13 M) := by
  intro n
  induction n with
  | zero =>
    intro v0 v2 v3 v4 v6 v8 v13 M
    exact xZ.no
  | succ n ih =>
    intro v0 v2 v3 v4 v6 v8 v13 M
    unfold f_Law_areMoved_354
    refine xZ.adv (me := xm97) hP_97 2 (pc' := 358) (lv' := [(0, .ref v0), (2, .int v2), (3, .ref v3), (4, .int v4), (6, .ref v6), (8, .int v8), (13, .int v13)]) (st' := [.int v8, .int v13]) rfl ?_
    refine xZ.ic_ge (me := xm97) hP_97 rfl (fun h1 => ?_) (fun h1 => ?_)
    · skip
      refine xZ.adv (me := xm97) hP_97 2 (pc' := 375) (lv' := [(13, .int (0 : Int32)), (0, .ref v0), (2, .int v2), (3, .ref v3), (4, .int v4), (6, .ref v6), (8, .int v8)]) (st' := []) rfl ?_
      exact xZ.sub (xsc (.tail _ (.head _)) (xsc (.tail _ (.tail _ (.head _))) (xsc (.tail _ (.tail _ (.tail _ (.head _)))) (xsc (.tail _ (.tail _ (.tail _ (.tail _ (.head _))))) (xsc (.tail _ (.tail _ (.tail _ (.tail _ (.tail _ (.head _)))))) (xsc (.head _) xsn)))))) (show ([13, 0, 2, 3, 4, 6, 8] : List Nat).Nodup from by decide) (k_f_Law_areMoved_375 O f d f v0 v2 v3 v4 v6 (0 : Int32) M)
    · skip
      refine xZ.adv (me := xm97) hP_97 1 (pc' := 362) (lv' := [(0, .ref v0), (2, .int v2), (3, .ref v3), (4, .int v4), (6, .ref v6), (8, .int v8), (13, .int v13)]) (st' := [.ref v0]) rfl ?_
      refine xZ.callv (κ := oI) (av := []) (rest := []) (st' := fun x1 => [.int x1]) (k0 := v0) (me := xm97) hP_97 rfl (Or.inl rfl) ⟨rfl, by decide⟩ rfl rfl (Nat.le_of_ble_eq_true rfl) (by decide) hP_124 (Nat.le_of_ble_eq_true rfl) (fun _ => rfl) (k_f_Calendarhall_undo O f (d + 2) v0 M) (fun x1 M1 => ?_)
      refine xZ.adv (me := xm97) hP_97 3 (pc' := 354) (lv' := [(13, .int (v13 + (1 : Int32))), (0, .ref v0), (2, .int v2), (3, .ref v3), (4, .int v4), (6, .ref v6), (8, .int v8)]) (st' := []) rfl ?_
      exact xZ.sub (xsc (.tail _ (.head _)) (xsc (.tail _ (.tail _ (.head _))) (xsc (.tail _ (.tail _ (.tail _ (.head _)))) (xsc (.tail _ (.tail _ (.tail _ (.tail _ (.head _))))) (xsc (.tail _ (.tail _ (.tail _ (.tail _ (.tail _ (.head _)))))) (xsc (.tail _ (.tail _ (.tail _ (.tail _ (.tail _ (.tail _ (.head _))))))) (xsc (.head _) xsn))))))) (show ([13, 0, 2, 3, 4, 6, 8] : List Nat).Nodup from by decide) (ih v0 v2 v3 v4 v6 v8 (v13 + (1 : Int32)) M1)
def f_Law_areMoved_351 (O : Nat → Option va_E) (f : Nat) (v0 : Nat) (v2 : Int32) (v3 : Nat) (v4 : Int32) (v6 : Nat) (v8 : Int32) (M : xM) : Option (Int32 × xM) :=
  f_Law_areMoved_354 O f f v0 v2 v3 v4 v6 v8 (0 : Int32) M
set_option maxRecDepth 20000 in
theorem k_f_Law_areMoved_351 (O : Nat → Option va_E) (f d : Nat) (v0 : Nat) (v2 : Int32) (v3 : Nat) (v4 : Int32) (v6 : Nat) (v8 : Int32) (M : xM) : xZ oI O (d + 7) 97 351 [(0, .ref v0), (2, .int v2), (3, .ref v3), (4, .int v4), (6, .ref v6), (8, .int v8)] [] M (f_Law_areMoved_351 O f v0 v2 v3 v4 v6 v8 M) := by
  unfold f_Law_areMoved_351
  refine xZ.adv (me := xm97) hP_97 2 (pc' := 354) (lv' := [(13, .int (0 : Int32)), (0, .ref v0), (2, .int v2), (3, .ref v3), (4, .int v4), (6, .ref v6), (8, .int v8)]) (st' := []) rfl ?_
  exact xZ.sub (xsc (.tail _ (.head _)) (xsc (.tail _ (.tail _ (.head _))) (xsc (.tail _ (.tail _ (.tail _ (.head _)))) (xsc (.tail _ (.tail _ (.tail _ (.tail _ (.head _))))) (xsc (.tail _ (.tail _ (.tail _ (.tail _ (.tail _ (.head _)))))) (xsc (.tail _ (.tail _ (.tail _ (.tail _ (.tail _ (.tail _ (.head _))))))) (xsc (.head _) xsn))))))) (show ([13, 0, 2, 3, 4, 6, 8] : List Nat).Nodup from by decide) (k_f_Law_areMoved_354 O f d f v0 v2 v3 v4 v6 v8 (0 : Int32) M)
def f_Law_areMoved_329 (O : Nat → Option va_E) (f : Nat) (v0 : Nat) (v2 : Int32) (v3 : Nat) (v4 : Int32) (v6 : Nat) (v8 : Int32) (v9 : Int32) (v12 : Int32) (M : xM) : Option (Int32 × xM) :=
  if v12 = (-1 : Int32) then (
    f_Law_areMoved_351 O f v0 v2 v3 v4 v6 v8 M
  ) else
  (isO O M v0 12).bind fun _ =>
  xcl (f_Calendarhall_nextDate O f v0 v2 v9 M) fun x1 M1 =>
  (aI O M1 v3 v12).bind fun x2 =>
  if x1 = x2 then (
    f_Law_areMoved_351 O f v0 v2 v3 v4 v6 v8 M1
  ) else
  some ((0 : Int32), M1)
set_option maxRecDepth 20000 in
theorem k_f_Law_areMoved_329 (O : Nat → Option va_E) (f d : Nat) (v0 : Nat) (v2 : Int32) (v3 : Nat) (v4 : Int32) (v6 : Nat) (v8 : Int32) (v9 : Int32) (v12 : Int32) (M : xM) : xZ oI O (d + 7) 97 329 [(0, .ref v0), (2, .int v2), (3, .ref v3), (4, .int v4), (6, .ref v6), (8, .int v8), (9, .int v9), (12, .int v12)] [] M (f_Law_areMoved_329 O f v0 v2 v3 v4 v6 v8 v9 v12 M) := by
  unfold f_Law_areMoved_329
  refine xZ.adv (me := xm97) hP_97 2 (pc' := 332) (lv' := [(0, .ref v0), (2, .int v2), (3, .ref v3), (4, .int v4), (6, .ref v6), (8, .int v8), (9, .int v9), (12, .int v12)]) (st' := [.int (-1 : Int32), .int v12]) rfl ?_
  refine xZ.ic_eq (me := xm97) hP_97 rfl (fun h1 => ?_) (fun h1 => ?_)
  · skip
    exact xZ.sub (xsc (.head _) (xsc (.tail _ (.head _)) (xsc (.tail _ (.tail _ (.head _))) (xsc (.tail _ (.tail _ (.tail _ (.head _)))) (xsc (.tail _ (.tail _ (.tail _ (.tail _ (.head _))))) (xsc (.tail _ (.tail _ (.tail _ (.tail _ (.tail _ (.head _)))))) xsn)))))) (show ([0, 2, 3, 4, 6, 8, 9, 12] : List Nat).Nodup from by decide) (k_f_Law_areMoved_351 O f d v0 v2 v3 v4 v6 v8 M)
  · skip
    refine xZ.adv (me := xm97) hP_97 3 (pc' := 339) (lv' := [(0, .ref v0), (2, .int v2), (3, .ref v3), (4, .int v4), (6, .ref v6), (8, .int v8), (9, .int v9), (12, .int v12)]) (st' := [.int v9, .int v2, .ref v0]) rfl ?_
    refine xZ.callv (κ := oI) (av := [.int v2, .int v9]) (rest := []) (st' := fun x1 => [.int x1]) (k0 := v0) (me := xm97) hP_97 rfl (Or.inl rfl) ⟨rfl, by decide⟩ rfl rfl (Nat.le_of_ble_eq_true rfl) (by decide) hP_120 (Nat.le_of_ble_eq_true rfl) (fun _ => rfl) (k_f_Calendarhall_nextDate O f (d + 0) v0 v2 v9 M) (fun x1 M1 => ?_)
    refine xZ.adv (me := xm97) hP_97 2 (pc' := 345) (lv' := [(0, .ref v0), (2, .int v2), (3, .ref v3), (4, .int v4), (6, .ref v6), (8, .int v8), (9, .int v9), (12, .int v12)]) (st' := [.int v12, .ref v3, .int x1]) rfl ?_
    refine xZ.k_aI (me := xm97) hP_97 rfl (fun x2 => ?_)
    refine xZ.ic_eq (me := xm97) hP_97 rfl (fun h2 => ?_) (fun h2 => ?_)
    · skip
      exact xZ.sub (xsc (.head _) (xsc (.tail _ (.head _)) (xsc (.tail _ (.tail _ (.head _))) (xsc (.tail _ (.tail _ (.tail _ (.head _)))) (xsc (.tail _ (.tail _ (.tail _ (.tail _ (.head _))))) (xsc (.tail _ (.tail _ (.tail _ (.tail _ (.tail _ (.head _)))))) xsn)))))) (show ([0, 2, 3, 4, 6, 8, 9, 12] : List Nat).Nodup from by decide) (k_f_Law_areMoved_351 O f d v0 v2 v3 v4 v6 v8 M1)
    · skip
      refine xZ.adv (me := xm97) hP_97 1 (pc' := 350) (lv' := [(0, .ref v0), (2, .int v2), (3, .ref v3), (4, .int v4), (6, .ref v6), (8, .int v8), (9, .int v9), (12, .int v12)]) (st' := [.int (0 : Int32)]) rfl ?_
      exact xZ.rete (me := xm97) hP_97 rfl rfl rfl
def f_Law_areMoved_298 (O : Nat → Option va_E) (f : Nat) (K246 : Nat → Int32 → Nat → Int32 → Nat → Nat → Int32 → Int32 → Int32 → Int32 → Int32 → Int32 → xM → Option (Int32 × xM)) (v0 : Nat) (v2 : Int32) (v3 : Nat) (v4 : Int32) (v6 : Nat) (v7 : Nat) (v8 : Int32) (v9 : Int32) (v10 : Int32) (v11 : Int32) (v13 : Int32) (M : xM) : Option (Int32 × xM) :=
  K246 v0 v2 v3 v4 v6 v7 v8 v9 v10 v11 v13 (v13 + (1 : Int32)) M
set_option maxRecDepth 20000 in
theorem k_f_Law_areMoved_298 (O : Nat → Option va_E) (f d : Nat) (K246 : Nat → Int32 → Nat → Int32 → Nat → Nat → Int32 → Int32 → Int32 → Int32 → Int32 → Int32 → xM → Option (Int32 × xM)) (hK246 : ∀ (v0 : Nat) (v2 : Int32) (v3 : Nat) (v4 : Int32) (v6 : Nat) (v7 : Nat) (v8 : Int32) (v9 : Int32) (v10 : Int32) (v11 : Int32) (v12 : Int32) (v13 : Int32) M, xZ oI O (d + 7) 97 246 [(0, .ref v0), (2, .int v2), (3, .ref v3), (4, .int v4), (6, .ref v6), (7, .ref v7), (8, .int v8), (9, .int v9), (10, .int v10), (11, .int v11), (12, .int v12), (13, .int v13)] [] M (K246 v0 v2 v3 v4 v6 v7 v8 v9 v10 v11 v12 v13 M)) (v0 : Nat) (v2 : Int32) (v3 : Nat) (v4 : Int32) (v6 : Nat) (v7 : Nat) (v8 : Int32) (v9 : Int32) (v10 : Int32) (v11 : Int32) (v13 : Int32) (M : xM) : xZ oI O (d + 7) 97 298 [(0, .ref v0), (2, .int v2), (3, .ref v3), (4, .int v4), (6, .ref v6), (7, .ref v7), (8, .int v8), (9, .int v9), (10, .int v10), (11, .int v11), (13, .int v13)] [] M (f_Law_areMoved_298 O f K246 v0 v2 v3 v4 v6 v7 v8 v9 v10 v11 v13 M) := by
  unfold f_Law_areMoved_298
  refine xZ.adv (me := xm97) hP_97 4 (pc' := 246) (lv' := [(13, .int (v13 + (1 : Int32))), (12, .int v13), (0, .ref v0), (2, .int v2), (3, .ref v3), (4, .int v4), (6, .ref v6), (7, .ref v7), (8, .int v8), (9, .int v9), (10, .int v10), (11, .int v11)]) (st' := []) rfl ?_
  exact xZ.sub (xsc (.tail _ (.tail _ (.head _))) (xsc (.tail _ (.tail _ (.tail _ (.head _)))) (xsc (.tail _ (.tail _ (.tail _ (.tail _ (.head _))))) (xsc (.tail _ (.tail _ (.tail _ (.tail _ (.tail _ (.head _)))))) (xsc (.tail _ (.tail _ (.tail _ (.tail _ (.tail _ (.tail _ (.head _))))))) (xsc (.tail _ (.tail _ (.tail _ (.tail _ (.tail _ (.tail _ (.tail _ (.head _)))))))) (xsc (.tail _ (.tail _ (.tail _ (.tail _ (.tail _ (.tail _ (.tail _ (.tail _ (.head _))))))))) (xsc (.tail _ (.tail _ (.tail _ (.tail _ (.tail _ (.tail _ (.tail _ (.tail _ (.tail _ (.head _)))))))))) (xsc (.tail _ (.tail _ (.tail _ (.tail _ (.tail _ (.tail _ (.tail _ (.tail _ (.tail _ (.tail _ (.head _))))))))))) (xsc (.tail _ (.tail _ (.tail _ (.tail _ (.tail _ (.tail _ (.tail _ (.tail _ (.tail _ (.tail _ (.tail _ (.head _)))))))))))) (xsc (.tail _ (.head _)) (xsc (.head _) xsn)))))))))))) (show ([13, 12, 0, 2, 3, 4, 6, 7, 8, 9, 10, 11] : List Nat).Nodup from by decide) (hK246 v0 v2 v3 v4 v6 v7 v8 v9 v10 v11 v13 (v13 + (1 : Int32)) M)
def f_Law_areMoved_246 (O : Nat → Option va_E) (f : Nat) : Nat → Nat → Int32 → Nat → Int32 → Nat → Nat → Int32 → Int32 → Int32 → Int32 → Int32 → Int32 → xM → Option (Int32 × xM)
  | 0, _, _, _, _, _, _, _, _, _, _, _, _, _ => none
  | n + 1, v0, v2, v3, v4, v6, v7, v8, v9, v10, v11, v12, v13, M =>
    if v4 ≤ v13 then (
      if v10 ≤ v9 then (
        f_Law_areMoved_329 O f v0 v2 v3 v4 v6 v8 v9 v12 M
      ) else
      (isO O M v0 12).bind fun _ =>
      xcl (f_Calendarhall_countDates O f v0 v2 v9 v10 M) fun x1 M1 =>
      if v11 = x1 then (
        f_Law_areMoved_329 O f v0 v2 v3 v4 v6 v8 v9 v12 M1
      ) else
      some ((0 : Int32), M1)
    ) else
    (aI O M v7 v13).bind fun x2 =>
    if x2 < v9 then (
      f_Law_areMoved_246 O f n v0 v2 v3 v4 v6 v7 v8 v9 v10 v11 v12 (v13 + (1 : Int32)) M
    ) else
    (aI O M v7 v13).bind fun x3 =>
    if x3 < v10 then (
      if v12 = (-1 : Int32) then (
        f_Law_areMoved_298 O f (f_Law_areMoved_246 O f n) v0 v2 v3 v4 v6 v7 v8 v9 v10 (v11 + (1 : Int32)) v13 M
      ) else
      (aI O M v7 v13).bind fun x4 =>
      (aI O M v7 v12).bind fun x5 =>
      if x5 ≤ x4 then (
        f_Law_areMoved_246 O f n v0 v2 v3 v4 v6 v7 v8 v9 v10 (v11 + (1 : Int32)) v12 (v13 + (1 : Int32)) M
      ) else
      f_Law_areMoved_298 O f (f_Law_areMoved_246 O f n) v0 v2 v3 v4 v6 v7 v8 v9 v10 (v11 + (1 : Int32)) v13 M
    ) else
    f_Law_areMoved_246 O f n v0 v2 v3 v4 v6 v7 v8 v9 v10 v11 v12 (v13 + (1 : Int32)) M
set_option maxRecDepth 20000 in
theorem k_f_Law_areMoved_246 (O : Nat → Option va_E) (f d : Nat) : ∀ (n : Nat) (v0 : Nat) (v2 : Int32) (v3 : Nat) (v4 : Int32) (v6 : Nat) (v7 : Nat) (v8 : Int32) (v9 : Int32) (v10 : Int32) (v11 : Int32) (v12 : Int32) (v13 : Int32) (M : xM), xZ oI O (d + 7) 97 246 [(0, .ref v0), (2, .int v2), (3, .ref v3), (4, .int v4), (6, .ref v6), (7, .ref v7), (8, .int v8), (9, .int v9), (10, .int v10), (11, .int v11), (12, .int v12), (13, .int v13)] [] M (f_Law_areMoved_246 O f n v0 v2 v3 v4 v6 v7 v8 v9 v10 v11 v12 v13 M) := by
  intro n
  induction n with
  | zero =>
    intro v0 v2 v3 v4 v6 v7 v8 v9 v10 v11 v12 v13 M
    exact xZ.no
  | succ n ih =>
    intro v0 v2 v3 v4 v6 v7 v8 v9 v10 v11 v12 v13 M
    unfold f_Law_areMoved_246
    refine xZ.adv (me := xm97) hP_97 2 (pc' := 250) (lv' := [(0, .ref v0), (2, .int v2), (3, .ref v3), (4, .int v4), (6, .ref v6), (7, .ref v7), (8, .int v8), (9, .int v9), (10, .int v10), (11, .int v11), (12, .int v12), (13, .int v13)]) (st' := [.int v4, .int v13]) rfl ?_
    refine xZ.ic_ge (me := xm97) hP_97 rfl (fun h1 => ?_) (fun h1 => ?_)
    · skip
      refine xZ.adv (me := xm97) hP_97 2 (pc' := 312) (lv' := [(0, .ref v0), (2, .int v2), (3, .ref v3), (4, .int v4), (6, .ref v6), (7, .ref v7), (8, .int v8), (9, .int v9), (10, .int v10), (11, .int v11), (12, .int v12), (13, .int v13)]) (st' := [.int v9, .int v10]) rfl ?_
      refine xZ.ic_le (me := xm97) hP_97 rfl (fun h2 => ?_) (fun h2 => ?_)
      · skip
        exact xZ.sub (xsc (.head _) (xsc (.tail _ (.head _)) (xsc (.tail _ (.tail _ (.head _))) (xsc (.tail _ (.tail _ (.tail _ (.head _)))) (xsc (.tail _ (.tail _ (.tail _ (.tail _ (.head _))))) (xsc (.tail _ (.tail _ (.tail _ (.tail _ (.tail _ (.tail _ (.head _))))))) (xsc (.tail _ (.tail _ (.tail _ (.tail _ (.tail _ (.tail _ (.tail _ (.head _)))))))) (xsc (.tail _ (.tail _ (.tail _ (.tail _ (.tail _ (.tail _ (.tail _ (.tail _ (.tail _ (.tail _ (.head _))))))))))) xsn)))))))) (show ([0, 2, 3, 4, 6, 7, 8, 9, 10, 11, 12, 13] : List Nat).Nodup from by decide) (k_f_Law_areMoved_329 O f d v0 v2 v3 v4 v6 v8 v9 v12 M)
      · skip
        refine xZ.adv (me := xm97) hP_97 5 (pc' := 323) (lv' := [(0, .ref v0), (2, .int v2), (3, .ref v3), (4, .int v4), (6, .ref v6), (7, .ref v7), (8, .int v8), (9, .int v9), (10, .int v10), (11, .int v11), (12, .int v12), (13, .int v13)]) (st' := [.int v10, .int v9, .int v2, .ref v0, .int v11]) rfl ?_
        refine xZ.callv (κ := oI) (av := [.int v2, .int v9, .int v10]) (rest := [.int v11]) (st' := fun x1 => [.int x1, .int v11]) (k0 := v0) (me := xm97) hP_97 rfl (Or.inl rfl) ⟨rfl, by decide⟩ rfl rfl (Nat.le_of_ble_eq_true rfl) (by decide) hP_113 (Nat.le_of_ble_eq_true rfl) (fun _ => rfl) (k_f_Calendarhall_countDates O f (d + 0) v0 v2 v9 v10 M) (fun x1 M1 => ?_)
        refine xZ.ic_ne (me := xm97) hP_97 rfl (fun h3 => ?_) (fun h3 => ?_)
        · skip
          exact xZ.sub (xsc (.head _) (xsc (.tail _ (.head _)) (xsc (.tail _ (.tail _ (.head _))) (xsc (.tail _ (.tail _ (.tail _ (.head _)))) (xsc (.tail _ (.tail _ (.tail _ (.tail _ (.head _))))) (xsc (.tail _ (.tail _ (.tail _ (.tail _ (.tail _ (.tail _ (.head _))))))) (xsc (.tail _ (.tail _ (.tail _ (.tail _ (.tail _ (.tail _ (.tail _ (.head _)))))))) (xsc (.tail _ (.tail _ (.tail _ (.tail _ (.tail _ (.tail _ (.tail _ (.tail _ (.tail _ (.tail _ (.head _))))))))))) xsn)))))))) (show ([0, 2, 3, 4, 6, 7, 8, 9, 10, 11, 12, 13] : List Nat).Nodup from by decide) (k_f_Law_areMoved_329 O f d v0 v2 v3 v4 v6 v8 v9 v12 M1)
        · skip
          refine xZ.adv (me := xm97) hP_97 1 (pc' := 350) (lv' := [(0, .ref v0), (2, .int v2), (3, .ref v3), (4, .int v4), (6, .ref v6), (7, .ref v7), (8, .int v8), (9, .int v9), (10, .int v10), (11, .int v11), (12, .int v12), (13, .int v13)]) (st' := [.int (0 : Int32)]) rfl ?_
          exact xZ.rete (me := xm97) hP_97 rfl rfl rfl
    · skip
      refine xZ.adv (me := xm97) hP_97 2 (pc' := 257) (lv' := [(0, .ref v0), (2, .int v2), (3, .ref v3), (4, .int v4), (6, .ref v6), (7, .ref v7), (8, .int v8), (9, .int v9), (10, .int v10), (11, .int v11), (12, .int v12), (13, .int v13)]) (st' := [.int v13, .ref v7]) rfl ?_
      refine xZ.k_aI (me := xm97) hP_97 rfl (fun x2 => ?_)
      refine xZ.adv (me := xm97) hP_97 1 (pc' := 260) (lv' := [(0, .ref v0), (2, .int v2), (3, .ref v3), (4, .int v4), (6, .ref v6), (7, .ref v7), (8, .int v8), (9, .int v9), (10, .int v10), (11, .int v11), (12, .int v12), (13, .int v13)]) (st' := [.int v9, .int x2]) rfl ?_
      refine xZ.ic_lt (me := xm97) hP_97 rfl (fun h4 => ?_) (fun h4 => ?_)
      · skip
        refine xZ.adv (me := xm97) hP_97 2 (pc' := 246) (lv' := [(13, .int (v13 + (1 : Int32))), (0, .ref v0), (2, .int v2), (3, .ref v3), (4, .int v4), (6, .ref v6), (7, .ref v7), (8, .int v8), (9, .int v9), (10, .int v10), (11, .int v11), (12, .int v12)]) (st' := []) rfl ?_
        exact xZ.sub (xsc (.tail _ (.head _)) (xsc (.tail _ (.tail _ (.head _))) (xsc (.tail _ (.tail _ (.tail _ (.head _)))) (xsc (.tail _ (.tail _ (.tail _ (.tail _ (.head _))))) (xsc (.tail _ (.tail _ (.tail _ (.tail _ (.tail _ (.head _)))))) (xsc (.tail _ (.tail _ (.tail _ (.tail _ (.tail _ (.tail _ (.head _))))))) (xsc (.tail _ (.tail _ (.tail _ (.tail _ (.tail _ (.tail _ (.tail _ (.head _)))))))) (xsc (.tail _ (.tail _ (.tail _ (.tail _ (.tail _ (.tail _ (.tail _ (.tail _ (.head _))))))))) (xsc (.tail _ (.tail _ (.tail _ (.tail _ (.tail _ (.tail _ (.tail _ (.tail _ (.tail _ (.head _)))))))))) (xsc (.tail _ (.tail _ (.tail _ (.tail _ (.tail _ (.tail _ (.tail _ (.tail _ (.tail _ (.tail _ (.head _))))))))))) (xsc (.tail _ (.tail _ (.tail _ (.tail _ (.tail _ (.tail _ (.tail _ (.tail _ (.tail _ (.tail _ (.tail _ (.head _)))))))))))) (xsc (.head _) xsn)))))))))))) (show ([13, 0, 2, 3, 4, 6, 7, 8, 9, 10, 11, 12] : List Nat).Nodup from by decide) (ih v0 v2 v3 v4 v6 v7 v8 v9 v10 v11 v12 (v13 + (1 : Int32)) M)
      · skip
        refine xZ.adv (me := xm97) hP_97 2 (pc' := 267) (lv' := [(0, .ref v0), (2, .int v2), (3, .ref v3), (4, .int v4), (6, .ref v6), (7, .ref v7), (8, .int v8), (9, .int v9), (10, .int v10), (11, .int v11), (12, .int v12), (13, .int v13)]) (st' := [.int v13, .ref v7]) rfl ?_
        refine xZ.k_aI (me := xm97) hP_97 rfl (fun x3 => ?_)
        refine xZ.adv (me := xm97) hP_97 1 (pc' := 270) (lv' := [(0, .ref v0), (2, .int v2), (3, .ref v3), (4, .int v4), (6, .ref v6), (7, .ref v7), (8, .int v8), (9, .int v9), (10, .int v10), (11, .int v11), (12, .int v12), (13, .int v13)]) (st' := [.int v10, .int x3]) rfl ?_
        refine xZ.ic_lt (me := xm97) hP_97 rfl (fun h5 => ?_) (fun h5 => ?_)
        · skip
          refine xZ.adv (me := xm97) hP_97 3 (pc' := 282) (lv' := [(11, .int (v11 + (1 : Int32))), (0, .ref v0), (2, .int v2), (3, .ref v3), (4, .int v4), (6, .ref v6), (7, .ref v7), (8, .int v8), (9, .int v9), (10, .int v10), (12, .int v12), (13, .int v13)]) (st' := [.int (-1 : Int32), .int v12]) rfl ?_
          refine xZ.ic_eq (me := xm97) hP_97 rfl (fun h6 => ?_) (fun h6 => ?_)
          · skip
            exact xZ.sub (xsc (.tail _ (.head _)) (xsc (.tail _ (.tail _ (.head _))) (xsc (.tail _ (.tail _ (.tail _ (.head _)))) (xsc (.tail _ (.tail _ (.tail _ (.tail _ (.head _))))) (xsc (.tail _ (.tail _ (.tail _ (.tail _ (.tail _ (.head _)))))) (xsc (.tail _ (.tail _ (.tail _ (.tail _ (.tail _ (.tail _ (.head _))))))) (xsc (.tail _ (.tail _ (.tail _ (.tail _ (.tail _ (.tail _ (.tail _ (.head _)))))))) (xsc (.tail _ (.tail _ (.tail _ (.tail _ (.tail _ (.tail _ (.tail _ (.tail _ (.head _))))))))) (xsc (.tail _ (.tail _ (.tail _ (.tail _ (.tail _ (.tail _ (.tail _ (.tail _ (.tail _ (.head _)))))))))) (xsc (.head _) (xsc (.tail _ (.tail _ (.tail _ (.tail _ (.tail _ (.tail _ (.tail _ (.tail _ (.tail _ (.tail _ (.tail _ (.head _)))))))))))) xsn))))))))))) (show ([11, 0, 2, 3, 4, 6, 7, 8, 9, 10, 12, 13] : List Nat).Nodup from by decide) (k_f_Law_areMoved_298 O f d (f_Law_areMoved_246 O f n) ih v0 v2 v3 v4 v6 v7 v8 v9 v10 (v11 + (1 : Int32)) v13 M)
          · skip
            refine xZ.adv (me := xm97) hP_97 2 (pc' := 289) (lv' := [(11, .int (v11 + (1 : Int32))), (0, .ref v0), (2, .int v2), (3, .ref v3), (4, .int v4), (6, .ref v6), (7, .ref v7), (8, .int v8), (9, .int v9), (10, .int v10), (12, .int v12), (13, .int v13)]) (st' := [.int v13, .ref v7]) rfl ?_
            refine xZ.k_aI (me := xm97) hP_97 rfl (fun x4 => ?_)
            refine xZ.adv (me := xm97) hP_97 2 (pc' := 294) (lv' := [(11, .int (v11 + (1 : Int32))), (0, .ref v0), (2, .int v2), (3, .ref v3), (4, .int v4), (6, .ref v6), (7, .ref v7), (8, .int v8), (9, .int v9), (10, .int v10), (12, .int v12), (13, .int v13)]) (st' := [.int v12, .ref v7, .int x4]) rfl ?_
            refine xZ.k_aI (me := xm97) hP_97 rfl (fun x5 => ?_)
            refine xZ.ic_ge (me := xm97) hP_97 rfl (fun h7 => ?_) (fun h7 => ?_)
            · skip
              refine xZ.adv (me := xm97) hP_97 2 (pc' := 246) (lv' := [(13, .int (v13 + (1 : Int32))), (11, .int (v11 + (1 : Int32))), (0, .ref v0), (2, .int v2), (3, .ref v3), (4, .int v4), (6, .ref v6), (7, .ref v7), (8, .int v8), (9, .int v9), (10, .int v10), (12, .int v12)]) (st' := []) rfl ?_
              exact xZ.sub (xsc (.tail _ (.tail _ (.head _))) (xsc (.tail _ (.tail _ (.tail _ (.head _)))) (xsc (.tail _ (.tail _ (.tail _ (.tail _ (.head _))))) (xsc (.tail _ (.tail _ (.tail _ (.tail _ (.tail _ (.head _)))))) (xsc (.tail _ (.tail _ (.tail _ (.tail _ (.tail _ (.tail _ (.head _))))))) (xsc (.tail _ (.tail _ (.tail _ (.tail _ (.tail _ (.tail _ (.tail _ (.head _)))))))) (xsc (.tail _ (.tail _ (.tail _ (.tail _ (.tail _ (.tail _ (.tail _ (.tail _ (.head _))))))))) (xsc (.tail _ (.tail _ (.tail _ (.tail _ (.tail _ (.tail _ (.tail _ (.tail _ (.tail _ (.head _)))))))))) (xsc (.tail _ (.tail _ (.tail _ (.tail _ (.tail _ (.tail _ (.tail _ (.tail _ (.tail _ (.tail _ (.head _))))))))))) (xsc (.tail _ (.head _)) (xsc (.tail _ (.tail _ (.tail _ (.tail _ (.tail _ (.tail _ (.tail _ (.tail _ (.tail _ (.tail _ (.tail _ (.head _)))))))))))) (xsc (.head _) xsn)))))))))))) (show ([13, 11, 0, 2, 3, 4, 6, 7, 8, 9, 10, 12] : List Nat).Nodup from by decide) (ih v0 v2 v3 v4 v6 v7 v8 v9 v10 (v11 + (1 : Int32)) v12 (v13 + (1 : Int32)) M)
            · skip
              exact xZ.sub (xsc (.tail _ (.head _)) (xsc (.tail _ (.tail _ (.head _))) (xsc (.tail _ (.tail _ (.tail _ (.head _)))) (xsc (.tail _ (.tail _ (.tail _ (.tail _ (.head _))))) (xsc (.tail _ (.tail _ (.tail _ (.tail _ (.tail _ (.head _)))))) (xsc (.tail _ (.tail _ (.tail _ (.tail _ (.tail _ (.tail _ (.head _))))))) (xsc (.tail _ (.tail _ (.tail _ (.tail _ (.tail _ (.tail _ (.tail _ (.head _)))))))) (xsc (.tail _ (.tail _ (.tail _ (.tail _ (.tail _ (.tail _ (.tail _ (.tail _ (.head _))))))))) (xsc (.tail _ (.tail _ (.tail _ (.tail _ (.tail _ (.tail _ (.tail _ (.tail _ (.tail _ (.head _)))))))))) (xsc (.head _) (xsc (.tail _ (.tail _ (.tail _ (.tail _ (.tail _ (.tail _ (.tail _ (.tail _ (.tail _ (.tail _ (.tail _ (.head _)))))))))))) xsn))))))))))) (show ([11, 0, 2, 3, 4, 6, 7, 8, 9, 10, 12, 13] : List Nat).Nodup from by decide) (k_f_Law_areMoved_298 O f d (f_Law_areMoved_246 O f n) ih v0 v2 v3 v4 v6 v7 v8 v9 v10 (v11 + (1 : Int32)) v13 M)
        · skip
          refine xZ.adv (me := xm97) hP_97 3 (pc' := 246) (lv' := [(13, .int (v13 + (1 : Int32))), (0, .ref v0), (2, .int v2), (3, .ref v3), (4, .int v4), (6, .ref v6), (7, .ref v7), (8, .int v8), (9, .int v9), (10, .int v10), (11, .int v11), (12, .int v12)]) (st' := []) rfl ?_
          exact xZ.sub (xsc (.tail _ (.head _)) (xsc (.tail _ (.tail _ (.head _))) (xsc (.tail _ (.tail _ (.tail _ (.head _)))) (xsc (.tail _ (.tail _ (.tail _ (.tail _ (.head _))))) (xsc (.tail _ (.tail _ (.tail _ (.tail _ (.tail _ (.head _)))))) (xsc (.tail _ (.tail _ (.tail _ (.tail _ (.tail _ (.tail _ (.head _))))))) (xsc (.tail _ (.tail _ (.tail _ (.tail _ (.tail _ (.tail _ (.tail _ (.head _)))))))) (xsc (.tail _ (.tail _ (.tail _ (.tail _ (.tail _ (.tail _ (.tail _ (.tail _ (.head _))))))))) (xsc (.tail _ (.tail _ (.tail _ (.tail _ (.tail _ (.tail _ (.tail _ (.tail _ (.tail _ (.head _)))))))))) (xsc (.tail _ (.tail _ (.tail _ (.tail _ (.tail _ (.tail _ (.tail _ (.tail _ (.tail _ (.tail _ (.head _))))))))))) (xsc (.tail _ (.tail _ (.tail _ (.tail _ (.tail _ (.tail _ (.tail _ (.tail _ (.tail _ (.tail _ (.tail _ (.head _)))))))))))) (xsc (.head _) xsn)))))))))))) (show ([13, 0, 2, 3, 4, 6, 7, 8, 9, 10, 11, 12] : List Nat).Nodup from by decide) (ih v0 v2 v3 v4 v6 v7 v8 v9 v10 v11 v12 (v13 + (1 : Int32)) M)
def f_Law_areMoved_85 (O : Nat → Option va_E) (f : Nat) : Nat → Nat → Nat → Int32 → Nat → Int32 → Int32 → Nat → Nat → Int32 → Int32 → xM → Option (Int32 × xM)
  | 0, _, _, _, _, _, _, _, _, _, _, _ => none
  | n + 1, v0, v1, v2, v3, v4, v5, v6, v7, v8, v9, M =>
    if v8 ≤ v9 then (
      (aI O M v6 (0 : Int32)).bind fun x1 =>
      xcl (f_Math_max O f (14400 : Int32) (x1 - (2000 : Int32)) M) fun x2 M1 =>
      xcl (f_Math_min O f (x2 + (525600 : Int32)) (((1440 : Int32) * (v5 - (1 : Int32))) - (1500 : Int32)) M1) fun x3 M2 =>
      f_Law_areMoved_246 O f f v0 v2 v3 v4 v6 v7 v8 x2 x3 (0 : Int32) (-1 : Int32) (0 : Int32) M2
    ) else
    (isO O M v1 15).bind fun _ =>
    xcl (f_LDraw_n O f v1 v4 M) fun x4 M3 =>
    (isO O M3 v1 15).bind fun _ =>
    xcl (f_LDraw_is O f v1 (3 : Int32) M3) fun x5 M4 =>
    if x5 = 0 then (
      (aI O M4 v3 x4).bind fun x6 =>
      (aI O M4 v3 x4).bind fun x7 =>
      (isO O M4 v1 15).bind fun _ =>
      xcl (f_LDraw_n O f v1 (5 : Int32) M4) fun x8 M5 =>
      (isO O M5 v1 15).bind fun _ =>
      xcl (f_LDraw_n O f v1 (1440 : Int32) M5) fun x9 M6 =>
      (isO O M6 v0 12).bind fun _ =>
      xcl (f_Calendarhall_move O f v0 v2 x6 (x7 + x8) x9 M6) fun x10 M7 =>
      (wI M7 v7 x4 x10).bind fun M8 =>
      f_Law_areMoved_158 O f (f_Law_areMoved_85 O f n) v0 v1 v2 v3 v4 v5 v6 v7 v8 v9 M8
    ) else
    (aI O M4 v3 x4).bind fun x11 =>
    (isO O M4 v0 12).bind fun _ =>
    xcl (f_Calendarhall_leaveOut O f v0 v2 x11 M4) fun x12 M9 =>
    (wI M9 v7 x4 (-1 : Int32)).bind fun M10 =>
    f_Law_areMoved_158 O f (f_Law_areMoved_85 O f n) v0 v1 v2 v3 v4 v5 v6 v7 v8 v9 M10
set_option maxRecDepth 20000 in
theorem k_f_Law_areMoved_85 (O : Nat → Option va_E) (f d : Nat) : ∀ (n : Nat) (v0 : Nat) (v1 : Nat) (v2 : Int32) (v3 : Nat) (v4 : Int32) (v5 : Int32) (v6 : Nat) (v7 : Nat) (v8 : Int32) (v9 : Int32) (M : xM), xZ oI O (d + 7) 97 85 [(0, .ref v0), (1, .ref v1), (2, .int v2), (3, .ref v3), (4, .int v4), (5, .int v5), (6, .ref v6), (7, .ref v7), (8, .int v8), (9, .int v9)] [] M (f_Law_areMoved_85 O f n v0 v1 v2 v3 v4 v5 v6 v7 v8 v9 M) := by
  intro n
  induction n with
  | zero =>
    intro v0 v1 v2 v3 v4 v5 v6 v7 v8 v9 M
    exact xZ.no
  | succ n ih =>
    intro v0 v1 v2 v3 v4 v5 v6 v7 v8 v9 M
    unfold f_Law_areMoved_85
    refine xZ.adv (me := xm97) hP_97 2 (pc' := 89) (lv' := [(0, .ref v0), (1, .ref v1), (2, .int v2), (3, .ref v3), (4, .int v4), (5, .int v5), (6, .ref v6), (7, .ref v7), (8, .int v8), (9, .int v9)]) (st' := [.int v8, .int v9]) rfl ?_
    refine xZ.ic_ge (me := xm97) hP_97 rfl (fun h1 => ?_) (fun h1 => ?_)
    · skip
      refine xZ.adv (me := xm97) hP_97 3 (pc' := 205) (lv' := [(0, .ref v0), (1, .ref v1), (2, .int v2), (3, .ref v3), (4, .int v4), (5, .int v5), (6, .ref v6), (7, .ref v7), (8, .int v8), (9, .int v9)]) (st' := [.int (0 : Int32), .ref v6, .int (14400 : Int32)]) rfl ?_
      refine xZ.k_aI (me := xm97) hP_97 rfl (fun x1 => ?_)
      refine xZ.adv (me := xm97) hP_97 2 (pc' := 210) (lv' := [(0, .ref v0), (1, .ref v1), (2, .int v2), (3, .ref v3), (4, .int v4), (5, .int v5), (6, .ref v6), (7, .ref v7), (8, .int v8), (9, .int v9)]) (st' := [.int (x1 - (2000 : Int32)), .int (14400 : Int32)]) rfl ?_
      refine xZ.calls (κ := oI) (av := [.int (14400 : Int32), .int (x1 - (2000 : Int32))]) (rest := []) (st' := fun x2 => [.int x2]) (me := xm97) hP_97 rfl rfl rfl (Nat.le_of_ble_eq_true rfl) (by decide) hP_247 (Nat.le_of_ble_eq_true rfl) (fun _ => rfl) (k_f_Math_max O f (d + 6) (14400 : Int32) (x1 - (2000 : Int32)) M) (fun x2 M1 => ?_)
      refine xZ.adv (me := xm97) hP_97 11 (pc' := 232) (lv' := [(9, .int x2), (0, .ref v0), (1, .ref v1), (2, .int v2), (3, .ref v3), (4, .int v4), (5, .int v5), (6, .ref v6), (7, .ref v7), (8, .int v8)]) (st' := [.int (((1440 : Int32) * (v5 - (1 : Int32))) - (1500 : Int32)), .int (x2 + (525600 : Int32))]) rfl ?_
      refine xZ.calls (κ := oI) (av := [.int (x2 + (525600 : Int32)), .int (((1440 : Int32) * (v5 - (1 : Int32))) - (1500 : Int32))]) (rest := []) (st' := fun x3 => [.int x3]) (me := xm97) hP_97 rfl rfl rfl (Nat.le_of_ble_eq_true rfl) (by decide) hP_248 (Nat.le_of_ble_eq_true rfl) (fun _ => rfl) (k_f_Math_min O f (d + 6) (x2 + (525600 : Int32)) (((1440 : Int32) * (v5 - (1 : Int32))) - (1500 : Int32)) M1) (fun x3 M2 => ?_)
      refine xZ.adv (me := xm97) hP_97 7 (pc' := 246) (lv' := [(13, .int (0 : Int32)), (12, .int (-1 : Int32)), (11, .int (0 : Int32)), (10, .int x3), (9, .int x2), (0, .ref v0), (1, .ref v1), (2, .int v2), (3, .ref v3), (4, .int v4), (5, .int v5), (6, .ref v6), (7, .ref v7), (8, .int v8)]) (st' := []) rfl ?_
      exact xZ.sub (xsc (.tail _ (.tail _ (.tail _ (.tail _ (.tail _ (.head _)))))) (xsc (.tail _ (.tail _ (.tail _ (.tail _ (.tail _ (.tail _ (.tail _ (.head _)))))))) (xsc (.tail _ (.tail _ (.tail _ (.tail _ (.tail _ (.tail _ (.tail _ (.tail _ (.head _))))))))) (xsc (.tail _ (.tail _ (.tail _ (.tail _ (.tail _ (.tail _ (.tail _ (.tail _ (.tail _ (.head _)))))))))) (xsc (.tail _ (.tail _ (.tail _ (.tail _ (.tail _ (.tail _ (.tail _ (.tail _ (.tail _ (.tail _ (.tail _ (.head _)))))))))))) (xsc (.tail _ (.tail _ (.tail _ (.tail _ (.tail _ (.tail _ (.tail _ (.tail _ (.tail _ (.tail _ (.tail _ (.tail _ (.head _))))))))))))) (xsc (.tail _ (.tail _ (.tail _ (.tail _ (.tail _ (.tail _ (.tail _ (.tail _ (.tail _ (.tail _ (.tail _ (.tail _ (.tail _ (.head _)))))))))))))) (xsc (.tail _ (.tail _ (.tail _ (.tail _ (.head _))))) (xsc (.tail _ (.tail _ (.tail _ (.head _)))) (xsc (.tail _ (.tail _ (.head _))) (xsc (.tail _ (.head _)) (xsc (.head _) xsn)))))))))))) (show ([13, 12, 11, 10, 9, 0, 1, 2, 3, 4, 5, 6, 7, 8] : List Nat).Nodup from by decide) (k_f_Law_areMoved_246 O f d f v0 v2 v3 v4 v6 v7 v8 x2 x3 (0 : Int32) (-1 : Int32) (0 : Int32) M2)
    · skip
      refine xZ.adv (me := xm97) hP_97 2 (pc' := 95) (lv' := [(0, .ref v0), (1, .ref v1), (2, .int v2), (3, .ref v3), (4, .int v4), (5, .int v5), (6, .ref v6), (7, .ref v7), (8, .int v8), (9, .int v9)]) (st' := [.int v4, .ref v1]) rfl ?_
      refine xZ.callv (κ := oI) (av := [.int v4]) (rest := []) (st' := fun x4 => [.int x4]) (k0 := v1) (me := xm97) hP_97 rfl (Or.inl rfl) ⟨rfl, by decide⟩ rfl rfl (Nat.le_of_ble_eq_true rfl) (by decide) hP_12 (Nat.le_of_ble_eq_true rfl) (fun _ => rfl) (k_f_LDraw_n O f (d + 6) v1 v4 M) (fun x4 M3 => ?_)
      refine xZ.adv (me := xm97) hP_97 3 (pc' := 102) (lv' := [(10, .int x4), (0, .ref v0), (1, .ref v1), (2, .int v2), (3, .ref v3), (4, .int v4), (5, .int v5), (6, .ref v6), (7, .ref v7), (8, .int v8), (9, .int v9)]) (st' := [.int (3 : Int32), .ref v1]) rfl ?_
      refine xZ.callv (κ := oI) (av := [.int (3 : Int32)]) (rest := []) (st' := fun x5 => [.int x5]) (k0 := v1) (me := xm97) hP_97 rfl (Or.inl rfl) ⟨rfl, by decide⟩ rfl rfl (Nat.le_of_ble_eq_true rfl) (by decide) hP_18 (Nat.le_of_ble_eq_true rfl) (fun _ => rfl) (k_f_LDraw_is O f (d + 5) v1 (3 : Int32) M3) (fun x5 M4 => ?_)
      refine xZ.if_eq (me := xm97) hP_97 rfl (fun h2 => ?_) (fun h2 => ?_)
      · skip
        refine xZ.adv (me := xm97) hP_97 6 (pc' := 136) (lv' := [(10, .int x4), (0, .ref v0), (1, .ref v1), (2, .int v2), (3, .ref v3), (4, .int v4), (5, .int v5), (6, .ref v6), (7, .ref v7), (8, .int v8), (9, .int v9)]) (st' := [.int x4, .ref v3, .int v2, .ref v0, .int x4, .ref v7]) rfl ?_
        refine xZ.k_aI (me := xm97) hP_97 rfl (fun x6 => ?_)
        refine xZ.adv (me := xm97) hP_97 2 (pc' := 140) (lv' := [(10, .int x4), (0, .ref v0), (1, .ref v1), (2, .int v2), (3, .ref v3), (4, .int v4), (5, .int v5), (6, .ref v6), (7, .ref v7), (8, .int v8), (9, .int v9)]) (st' := [.int x4, .ref v3, .int x6, .int v2, .ref v0, .int x4, .ref v7]) rfl ?_
        refine xZ.k_aI (me := xm97) hP_97 rfl (fun x7 => ?_)
        refine xZ.adv (me := xm97) hP_97 2 (pc' := 143) (lv' := [(10, .int x4), (0, .ref v0), (1, .ref v1), (2, .int v2), (3, .ref v3), (4, .int v4), (5, .int v5), (6, .ref v6), (7, .ref v7), (8, .int v8), (9, .int v9)]) (st' := [.int (5 : Int32), .ref v1, .int x7, .int x6, .int v2, .ref v0, .int x4, .ref v7]) rfl ?_
        refine xZ.callv (κ := oI) (av := [.int (5 : Int32)]) (rest := [.int x7, .int x6, .int v2, .ref v0, .int x4, .ref v7]) (st' := fun x8 => [.int x8, .int x7, .int x6, .int v2, .ref v0, .int x4, .ref v7]) (k0 := v1) (me := xm97) hP_97 rfl (Or.inl rfl) ⟨rfl, by decide⟩ rfl rfl (Nat.le_of_ble_eq_true rfl) (by decide) hP_12 (Nat.le_of_ble_eq_true rfl) (fun _ => rfl) (k_f_LDraw_n O f (d + 6) v1 (5 : Int32) M4) (fun x8 M5 => ?_)
        refine xZ.adv (me := xm97) hP_97 3 (pc' := 151) (lv' := [(10, .int x4), (0, .ref v0), (1, .ref v1), (2, .int v2), (3, .ref v3), (4, .int v4), (5, .int v5), (6, .ref v6), (7, .ref v7), (8, .int v8), (9, .int v9)]) (st' := [.int (1440 : Int32), .ref v1, .int (x7 + x8), .int x6, .int v2, .ref v0, .int x4, .ref v7]) rfl ?_
        refine xZ.callv (κ := oI) (av := [.int (1440 : Int32)]) (rest := [.int (x7 + x8), .int x6, .int v2, .ref v0, .int x4, .ref v7]) (st' := fun x9 => [.int x9, .int (x7 + x8), .int x6, .int v2, .ref v0, .int x4, .ref v7]) (k0 := v1) (me := xm97) hP_97 rfl (Or.inl rfl) ⟨rfl, by decide⟩ rfl rfl (Nat.le_of_ble_eq_true rfl) (by decide) hP_12 (Nat.le_of_ble_eq_true rfl) (fun _ => rfl) (k_f_LDraw_n O f (d + 6) v1 (1440 : Int32) M5) (fun x9 M6 => ?_)
        refine xZ.callv (κ := oI) (av := [.int v2, .int x6, .int (x7 + x8), .int x9]) (rest := [.int x4, .ref v7]) (st' := fun x10 => [.int x10, .int x4, .ref v7]) (k0 := v0) (me := xm97) hP_97 rfl (Or.inl rfl) ⟨rfl, by decide⟩ rfl rfl (Nat.le_of_ble_eq_true rfl) (by decide) hP_112 (Nat.le_of_ble_eq_true rfl) (fun _ => rfl) (k_f_Calendarhall_move O f (d + 1) v0 v2 x6 (x7 + x8) x9 M6) (fun x10 M7 => ?_)
        refine xZ.k_wI (me := xm97) hP_97 rfl (fun M8 => ?_)
        exact xZ.sub (xsc (.tail _ (.head _)) (xsc (.tail _ (.tail _ (.head _))) (xsc (.tail _ (.tail _ (.tail _ (.head _)))) (xsc (.tail _ (.tail _ (.tail _ (.tail _ (.head _))))) (xsc (.tail _ (.tail _ (.tail _ (.tail _ (.tail _ (.head _)))))) (xsc (.tail _ (.tail _ (.tail _ (.tail _ (.tail _ (.tail _ (.head _))))))) (xsc (.tail _ (.tail _ (.tail _ (.tail _ (.tail _ (.tail _ (.tail _ (.head _)))))))) (xsc (.tail _ (.tail _ (.tail _ (.tail _ (.tail _ (.tail _ (.tail _ (.tail _ (.head _))))))))) (xsc (.tail _ (.tail _ (.tail _ (.tail _ (.tail _ (.tail _ (.tail _ (.tail _ (.tail _ (.head _)))))))))) (xsc (.tail _ (.tail _ (.tail _ (.tail _ (.tail _ (.tail _ (.tail _ (.tail _ (.tail _ (.tail _ (.head _))))))))))) xsn)))))))))) (show ([10, 0, 1, 2, 3, 4, 5, 6, 7, 8, 9] : List Nat).Nodup from by decide) (k_f_Law_areMoved_158 O f d (f_Law_areMoved_85 O f n) ih v0 v1 v2 v3 v4 v5 v6 v7 v8 v9 M8)
      · skip
        refine xZ.adv (me := xm97) hP_97 4 (pc' := 113) (lv' := [(10, .int x4), (0, .ref v0), (1, .ref v1), (2, .int v2), (3, .ref v3), (4, .int v4), (5, .int v5), (6, .ref v6), (7, .ref v7), (8, .int v8), (9, .int v9)]) (st' := [.int x4, .ref v3, .int v2, .ref v0]) rfl ?_
        refine xZ.k_aI (me := xm97) hP_97 rfl (fun x11 => ?_)
        refine xZ.callv (κ := oI) (av := [.int v2, .int x11]) (rest := []) (st' := fun x12 => [.int x12]) (k0 := v0) (me := xm97) hP_97 rfl (Or.inl rfl) ⟨rfl, by decide⟩ rfl rfl (Nat.le_of_ble_eq_true rfl) (by decide) hP_109 (Nat.le_of_ble_eq_true rfl) (fun _ => rfl) (k_f_Calendarhall_leaveOut O f (d + 1) v0 v2 x11 M4) (fun x12 M9 => ?_)
        refine xZ.adv (me := xm97) hP_97 4 (pc' := 123) (lv' := [(10, .int x4), (0, .ref v0), (1, .ref v1), (2, .int v2), (3, .ref v3), (4, .int v4), (5, .int v5), (6, .ref v6), (7, .ref v7), (8, .int v8), (9, .int v9)]) (st' := [.int (-1 : Int32), .int x4, .ref v7]) rfl ?_
        refine xZ.k_wI (me := xm97) hP_97 rfl (fun M10 => ?_)
        refine xZ.adv (me := xm97) hP_97 1 (pc' := 158) (lv' := [(10, .int x4), (0, .ref v0), (1, .ref v1), (2, .int v2), (3, .ref v3), (4, .int v4), (5, .int v5), (6, .ref v6), (7, .ref v7), (8, .int v8), (9, .int v9)]) (st' := []) rfl ?_
        exact xZ.sub (xsc (.tail _ (.head _)) (xsc (.tail _ (.tail _ (.head _))) (xsc (.tail _ (.tail _ (.tail _ (.head _)))) (xsc (.tail _ (.tail _ (.tail _ (.tail _ (.head _))))) (xsc (.tail _ (.tail _ (.tail _ (.tail _ (.tail _ (.head _)))))) (xsc (.tail _ (.tail _ (.tail _ (.tail _ (.tail _ (.tail _ (.head _))))))) (xsc (.tail _ (.tail _ (.tail _ (.tail _ (.tail _ (.tail _ (.tail _ (.head _)))))))) (xsc (.tail _ (.tail _ (.tail _ (.tail _ (.tail _ (.tail _ (.tail _ (.tail _ (.head _))))))))) (xsc (.tail _ (.tail _ (.tail _ (.tail _ (.tail _ (.tail _ (.tail _ (.tail _ (.tail _ (.head _)))))))))) (xsc (.tail _ (.tail _ (.tail _ (.tail _ (.tail _ (.tail _ (.tail _ (.tail _ (.tail _ (.tail _ (.head _))))))))))) xsn)))))))))) (show ([10, 0, 1, 2, 3, 4, 5, 6, 7, 8, 9] : List Nat).Nodup from by decide) (k_f_Law_areMoved_158 O f d (f_Law_areMoved_85 O f n) ih v0 v1 v2 v3 v4 v5 v6 v7 v8 v9 M10)
def f_Law_areMoved_45 (O : Nat → Option va_E) (f : Nat) : Nat → Nat → Nat → Int32 → Nat → Int32 → Int32 → Nat → Nat → Int32 → xM → Option (Int32 × xM)
  | 0, _, _, _, _, _, _, _, _, _, _ => none
  | n + 1, v0, v1, v2, v3, v4, v5, v6, v7, v8, M =>
    if v4 ≤ v8 then (
      (isO O M v1 15).bind fun _ =>
      xcl (f_LDraw_n O f v1 (4 : Int32) M) fun x1 M1 =>
      xcl (f_Math_min O f v4 ((1 : Int32) + x1) M1) fun x2 M2 =>
      f_Law_areMoved_85 O f f v0 v1 v2 v3 v4 v5 v6 v7 x2 (0 : Int32) M2
    ) else
    (aI O M v6 v8).bind fun x3 =>
    (wI M v7 v8 x3).bind fun M3 =>
    f_Law_areMoved_45 O f n v0 v1 v2 v3 v4 v5 v6 v7 (v8 + (1 : Int32)) M3
set_option maxRecDepth 20000 in
theorem k_f_Law_areMoved_45 (O : Nat → Option va_E) (f d : Nat) : ∀ (n : Nat) (v0 : Nat) (v1 : Nat) (v2 : Int32) (v3 : Nat) (v4 : Int32) (v5 : Int32) (v6 : Nat) (v7 : Nat) (v8 : Int32) (M : xM), xZ oI O (d + 7) 97 45 [(0, .ref v0), (1, .ref v1), (2, .int v2), (3, .ref v3), (4, .int v4), (5, .int v5), (6, .ref v6), (7, .ref v7), (8, .int v8)] [] M (f_Law_areMoved_45 O f n v0 v1 v2 v3 v4 v5 v6 v7 v8 M) := by
  intro n
  induction n with
  | zero =>
    intro v0 v1 v2 v3 v4 v5 v6 v7 v8 M
    exact xZ.no
  | succ n ih =>
    intro v0 v1 v2 v3 v4 v5 v6 v7 v8 M
    unfold f_Law_areMoved_45
    refine xZ.adv (me := xm97) hP_97 2 (pc' := 49) (lv' := [(0, .ref v0), (1, .ref v1), (2, .int v2), (3, .ref v3), (4, .int v4), (5, .int v5), (6, .ref v6), (7, .ref v7), (8, .int v8)]) (st' := [.int v4, .int v8]) rfl ?_
    refine xZ.ic_ge (me := xm97) hP_97 rfl (fun h1 => ?_) (fun h1 => ?_)
    · skip
      refine xZ.adv (me := xm97) hP_97 4 (pc' := 73) (lv' := [(0, .ref v0), (1, .ref v1), (2, .int v2), (3, .ref v3), (4, .int v4), (5, .int v5), (6, .ref v6), (7, .ref v7), (8, .int v8)]) (st' := [.int (4 : Int32), .ref v1, .int (1 : Int32), .int v4]) rfl ?_
      refine xZ.callv (κ := oI) (av := [.int (4 : Int32)]) (rest := [.int (1 : Int32), .int v4]) (st' := fun x1 => [.int x1, .int (1 : Int32), .int v4]) (k0 := v1) (me := xm97) hP_97 rfl (Or.inl rfl) ⟨rfl, by decide⟩ rfl rfl (Nat.le_of_ble_eq_true rfl) (by decide) hP_12 (Nat.le_of_ble_eq_true rfl) (fun _ => rfl) (k_f_LDraw_n O f (d + 6) v1 (4 : Int32) M) (fun x1 M1 => ?_)
      refine xZ.adv (me := xm97) hP_97 1 (pc' := 77) (lv' := [(0, .ref v0), (1, .ref v1), (2, .int v2), (3, .ref v3), (4, .int v4), (5, .int v5), (6, .ref v6), (7, .ref v7), (8, .int v8)]) (st' := [.int ((1 : Int32) + x1), .int v4]) rfl ?_
      refine xZ.calls (κ := oI) (av := [.int v4, .int ((1 : Int32) + x1)]) (rest := []) (st' := fun x2 => [.int x2]) (me := xm97) hP_97 rfl rfl rfl (Nat.le_of_ble_eq_true rfl) (by decide) hP_248 (Nat.le_of_ble_eq_true rfl) (fun _ => rfl) (k_f_Math_min O f (d + 6) v4 ((1 : Int32) + x1) M1) (fun x2 M2 => ?_)
      refine xZ.adv (me := xm97) hP_97 3 (pc' := 85) (lv' := [(9, .int (0 : Int32)), (8, .int x2), (0, .ref v0), (1, .ref v1), (2, .int v2), (3, .ref v3), (4, .int v4), (5, .int v5), (6, .ref v6), (7, .ref v7)]) (st' := []) rfl ?_
      exact xZ.sub (xsc (.tail _ (.tail _ (.head _))) (xsc (.tail _ (.tail _ (.tail _ (.head _)))) (xsc (.tail _ (.tail _ (.tail _ (.tail _ (.head _))))) (xsc (.tail _ (.tail _ (.tail _ (.tail _ (.tail _ (.head _)))))) (xsc (.tail _ (.tail _ (.tail _ (.tail _ (.tail _ (.tail _ (.head _))))))) (xsc (.tail _ (.tail _ (.tail _ (.tail _ (.tail _ (.tail _ (.tail _ (.head _)))))))) (xsc (.tail _ (.tail _ (.tail _ (.tail _ (.tail _ (.tail _ (.tail _ (.tail _ (.head _))))))))) (xsc (.tail _ (.tail _ (.tail _ (.tail _ (.tail _ (.tail _ (.tail _ (.tail _ (.tail _ (.head _)))))))))) (xsc (.tail _ (.head _)) (xsc (.head _) xsn)))))))))) (show ([9, 8, 0, 1, 2, 3, 4, 5, 6, 7] : List Nat).Nodup from by decide) (k_f_Law_areMoved_85 O f d f v0 v1 v2 v3 v4 v5 v6 v7 x2 (0 : Int32) M2)
    · skip
      refine xZ.adv (me := xm97) hP_97 4 (pc' := 60) (lv' := [(0, .ref v0), (1, .ref v1), (2, .int v2), (3, .ref v3), (4, .int v4), (5, .int v5), (6, .ref v6), (7, .ref v7), (8, .int v8)]) (st' := [.int v8, .ref v6, .int v8, .ref v7]) rfl ?_
      refine xZ.k_aI (me := xm97) hP_97 rfl (fun x3 => ?_)
      refine xZ.k_wI (me := xm97) hP_97 rfl (fun M3 => ?_)
      refine xZ.adv (me := xm97) hP_97 2 (pc' := 45) (lv' := [(8, .int (v8 + (1 : Int32))), (0, .ref v0), (1, .ref v1), (2, .int v2), (3, .ref v3), (4, .int v4), (5, .int v5), (6, .ref v6), (7, .ref v7)]) (st' := []) rfl ?_
      exact xZ.sub (xsc (.tail _ (.head _)) (xsc (.tail _ (.tail _ (.head _))) (xsc (.tail _ (.tail _ (.tail _ (.head _)))) (xsc (.tail _ (.tail _ (.tail _ (.tail _ (.head _))))) (xsc (.tail _ (.tail _ (.tail _ (.tail _ (.tail _ (.head _)))))) (xsc (.tail _ (.tail _ (.tail _ (.tail _ (.tail _ (.tail _ (.head _))))))) (xsc (.tail _ (.tail _ (.tail _ (.tail _ (.tail _ (.tail _ (.tail _ (.head _)))))))) (xsc (.tail _ (.tail _ (.tail _ (.tail _ (.tail _ (.tail _ (.tail _ (.tail _ (.head _))))))))) (xsc (.head _) xsn))))))))) (show ([8, 0, 1, 2, 3, 4, 5, 6, 7] : List Nat).Nodup from by decide) (ih v0 v1 v2 v3 v4 v5 v6 v7 (v8 + (1 : Int32)) M3)
def f_Law_areMoved_9 (O : Nat → Option va_E) (f : Nat) : Nat → Nat → Nat → Int32 → Nat → Int32 → Int32 → Nat → Int32 → xM → Option (Int32 × xM)
  | 0, _, _, _, _, _, _, _, _, _ => none
  | n + 1, v0, v1, v2, v3, v4, v5, v6, v7, M =>
    if v4 ≤ v7 then (
      xcl (nA M 0 v4) fun x1 M1 =>
      f_Law_areMoved_45 O f f v0 v1 v2 v3 v4 v5 v6 x1 (0 : Int32) M1
    ) else
    (aI O M v3 v7).bind fun x2 =>
    (isO O M v0 12).bind fun _ =>
    xcl (f_Calendarhall_begin O f v0 v2 x2 M) fun x3 M2 =>
    (wI M2 v6 v7 x3).bind fun M3 =>
    f_Law_areMoved_9 O f n v0 v1 v2 v3 v4 v5 v6 (v7 + (1 : Int32)) M3
set_option maxRecDepth 20000 in
theorem k_f_Law_areMoved_9 (O : Nat → Option va_E) (f d : Nat) : ∀ (n : Nat) (v0 : Nat) (v1 : Nat) (v2 : Int32) (v3 : Nat) (v4 : Int32) (v5 : Int32) (v6 : Nat) (v7 : Int32) (M : xM), xZ oI O (d + 7) 97 9 [(0, .ref v0), (1, .ref v1), (2, .int v2), (3, .ref v3), (4, .int v4), (5, .int v5), (6, .ref v6), (7, .int v7)] [] M (f_Law_areMoved_9 O f n v0 v1 v2 v3 v4 v5 v6 v7 M) := by
  intro n
  induction n with
  | zero =>
    intro v0 v1 v2 v3 v4 v5 v6 v7 M
    exact xZ.no
  | succ n ih =>
    intro v0 v1 v2 v3 v4 v5 v6 v7 M
    unfold f_Law_areMoved_9
    refine xZ.adv (me := xm97) hP_97 2 (pc' := 13) (lv' := [(0, .ref v0), (1, .ref v1), (2, .int v2), (3, .ref v3), (4, .int v4), (5, .int v5), (6, .ref v6), (7, .int v7)]) (st' := [.int v4, .int v7]) rfl ?_
    refine xZ.ic_ge (me := xm97) hP_97 rfl (fun h1 => ?_) (fun h1 => ?_)
    · skip
      refine xZ.adv (me := xm97) hP_97 1 (pc' := 38) (lv' := [(0, .ref v0), (1, .ref v1), (2, .int v2), (3, .ref v3), (4, .int v4), (5, .int v5), (6, .ref v6), (7, .int v7)]) (st' := [.int v4]) rfl ?_
      refine xZ.k_nA (me := xm97) hP_97 rfl rfl (by decide) (fun x1 M1 => ?_)
      refine xZ.adv (me := xm97) hP_97 3 (pc' := 45) (lv' := [(8, .int (0 : Int32)), (7, .ref x1), (0, .ref v0), (1, .ref v1), (2, .int v2), (3, .ref v3), (4, .int v4), (5, .int v5), (6, .ref v6)]) (st' := []) rfl ?_
      exact xZ.sub (xsc (.tail _ (.tail _ (.head _))) (xsc (.tail _ (.tail _ (.tail _ (.head _)))) (xsc (.tail _ (.tail _ (.tail _ (.tail _ (.head _))))) (xsc (.tail _ (.tail _ (.tail _ (.tail _ (.tail _ (.head _)))))) (xsc (.tail _ (.tail _ (.tail _ (.tail _ (.tail _ (.tail _ (.head _))))))) (xsc (.tail _ (.tail _ (.tail _ (.tail _ (.tail _ (.tail _ (.tail _ (.head _)))))))) (xsc (.tail _ (.tail _ (.tail _ (.tail _ (.tail _ (.tail _ (.tail _ (.tail _ (.head _))))))))) (xsc (.tail _ (.head _)) (xsc (.head _) xsn))))))))) (show ([8, 7, 0, 1, 2, 3, 4, 5, 6] : List Nat).Nodup from by decide) (k_f_Law_areMoved_45 O f d f v0 v1 v2 v3 v4 v5 v6 x1 (0 : Int32) M1)
    · skip
      refine xZ.adv (me := xm97) hP_97 6 (pc' := 25) (lv' := [(0, .ref v0), (1, .ref v1), (2, .int v2), (3, .ref v3), (4, .int v4), (5, .int v5), (6, .ref v6), (7, .int v7)]) (st' := [.int v7, .ref v3, .int v2, .ref v0, .int v7, .ref v6]) rfl ?_
      refine xZ.k_aI (me := xm97) hP_97 rfl (fun x2 => ?_)
      refine xZ.callv (κ := oI) (av := [.int v2, .int x2]) (rest := [.int v7, .ref v6]) (st' := fun x3 => [.int x3, .int v7, .ref v6]) (k0 := v0) (me := xm97) hP_97 rfl (Or.inl rfl) ⟨rfl, by decide⟩ rfl rfl (Nat.le_of_ble_eq_true rfl) (by decide) hP_98 (Nat.le_of_ble_eq_true rfl) (fun _ => rfl) (k_f_Calendarhall_begin O f (d + 1) v0 v2 x2 M) (fun x3 M2 => ?_)
      refine xZ.k_wI (me := xm97) hP_97 rfl (fun M3 => ?_)
      refine xZ.adv (me := xm97) hP_97 2 (pc' := 9) (lv' := [(7, .int (v7 + (1 : Int32))), (0, .ref v0), (1, .ref v1), (2, .int v2), (3, .ref v3), (4, .int v4), (5, .int v5), (6, .ref v6)]) (st' := []) rfl ?_
      exact xZ.sub (xsc (.tail _ (.head _)) (xsc (.tail _ (.tail _ (.head _))) (xsc (.tail _ (.tail _ (.tail _ (.head _)))) (xsc (.tail _ (.tail _ (.tail _ (.tail _ (.head _))))) (xsc (.tail _ (.tail _ (.tail _ (.tail _ (.tail _ (.head _)))))) (xsc (.tail _ (.tail _ (.tail _ (.tail _ (.tail _ (.tail _ (.head _))))))) (xsc (.tail _ (.tail _ (.tail _ (.tail _ (.tail _ (.tail _ (.tail _ (.head _)))))))) (xsc (.head _) xsn)))))))) (show ([7, 0, 1, 2, 3, 4, 5, 6] : List Nat).Nodup from by decide) (ih v0 v1 v2 v3 v4 v5 v6 (v7 + (1 : Int32)) M3)
def f_Law_areMoved (O : Nat → Option va_E) (f : Nat) (v0 : Nat) (v1 : Nat) (v2 : Int32) (v3 : Nat) (v4 : Int32) (v5 : Int32) (M : xM) : Option (Int32 × xM) :=
  xcl (nA M 0 v4) fun x1 M1 =>
  f_Law_areMoved_9 O f f v0 v1 v2 v3 v4 v5 x1 (0 : Int32) M1
set_option maxRecDepth 20000 in
theorem k_f_Law_areMoved (O : Nat → Option va_E) (f d : Nat) (v0 : Nat) (v1 : Nat) (v2 : Int32) (v3 : Nat) (v4 : Int32) (v5 : Int32) (M : xM) : xZ oI O (d + 7) 97 0 [(0, .ref v0), (1, .ref v1), (2, .int v2), (3, .ref v3), (4, .int v4), (5, .int v5)] [] M (f_Law_areMoved O f v0 v1 v2 v3 v4 v5 M) := by
  unfold f_Law_areMoved
  refine xZ.adv (me := xm97) hP_97 1 (pc' := 2) (lv' := [(0, .ref v0), (1, .ref v1), (2, .int v2), (3, .ref v3), (4, .int v4), (5, .int v5)]) (st' := [.int v4]) rfl ?_
  refine xZ.k_nA (me := xm97) hP_97 rfl rfl (by decide) (fun x1 M1 => ?_)
  refine xZ.adv (me := xm97) hP_97 3 (pc' := 9) (lv' := [(7, .int (0 : Int32)), (6, .ref x1), (0, .ref v0), (1, .ref v1), (2, .int v2), (3, .ref v3), (4, .int v4), (5, .int v5)]) (st' := []) rfl ?_
  exact xZ.sub (xsc (.tail _ (.tail _ (.head _))) (xsc (.tail _ (.tail _ (.tail _ (.head _)))) (xsc (.tail _ (.tail _ (.tail _ (.tail _ (.head _))))) (xsc (.tail _ (.tail _ (.tail _ (.tail _ (.tail _ (.head _)))))) (xsc (.tail _ (.tail _ (.tail _ (.tail _ (.tail _ (.tail _ (.head _))))))) (xsc (.tail _ (.tail _ (.tail _ (.tail _ (.tail _ (.tail _ (.tail _ (.head _)))))))) (xsc (.tail _ (.head _)) (xsc (.head _) xsn)))))))) (show ([7, 6, 0, 1, 2, 3, 4, 5] : List Nat).Nodup from by decide) (k_f_Law_areMoved_9 O f d f v0 v1 v2 v3 v4 v5 x1 (0 : Int32) M1)
def f_Series_tell (O : Nat → Option va_E) (f : Nat) (v0 : Nat) (v1 : Int32) (M : xM) : Option (Int32 × xM) :=
  if v1 = (0 : Int32) then (
    (gI O M v0 10 1).bind fun x1 =>
    some (x1, M)
  ) else
  if v1 = (1 : Int32) then (
    (gR O M v0 10 6).bind fun x2 =>
    (gI O M x2 9 0).bind fun x3 =>
    some (x3, M)
  ) else
  if v1 = (2 : Int32) then (
    (gI O M v0 10 2).bind fun x4 =>
    some (x4, M)
  ) else
  if v1 = (3 : Int32) then (
    (gI O M v0 10 3).bind fun x5 =>
    some (x5, M)
  ) else
  if v1 = (4 : Int32) then (
    (gI O M v0 10 4).bind fun x6 =>
    some (x6, M)
  ) else
  if v1 = (5 : Int32) then (
    (gI O M v0 10 5).bind fun x7 =>
    if x7 = 0 then (
      some ((0 : Int32), M)
    ) else
    some ((1 : Int32), M)
  ) else
  if v1 = (6 : Int32) then (
    (gR O M v0 10 6).bind fun x8 =>
    (gI O M x8 9 1).bind fun x9 =>
    some (x9, M)
  ) else
  if v1 = (7 : Int32) then (
    (gR O M v0 10 6).bind fun x10 =>
    (gI O M x10 9 2).bind fun x11 =>
    some (x11, M)
  ) else
  if v1 = (8 : Int32) then (
    (gR O M v0 10 6).bind fun x12 =>
    (gI O M x12 9 3).bind fun x13 =>
    some (x13, M)
  ) else
  if v1 = (9 : Int32) then (
    (gR O M v0 10 6).bind fun x14 =>
    (gI O M x14 9 4).bind fun x15 =>
    some (x15, M)
  ) else
  if v1 = (10 : Int32) then (
    (gR O M v0 10 6).bind fun x16 =>
    (gI O M x16 9 5).bind fun x17 =>
    some (x17, M)
  ) else
  if v1 = (11 : Int32) then (
    (gR O M v0 10 6).bind fun x18 =>
    (gI O M x18 9 6).bind fun x19 =>
    some (x19, M)
  ) else
  (gI O M v0 10 7).bind fun x20 =>
  some (x20, M)
set_option maxRecDepth 20000 in
theorem k_f_Series_tell (O : Nat → Option va_E) (f d : Nat) (v0 : Nat) (v1 : Int32) (M : xM) : xZ oI O (d + 0) 127 0 [(0, .ref v0), (1, .int v1)] [] M (f_Series_tell O f v0 v1 M) := by
  unfold f_Series_tell
  refine xZ.adv (me := xm127) hP_127 1 (pc' := 1) (lv' := [(0, .ref v0), (1, .int v1)]) (st' := [.int v1]) rfl ?_
  refine xZ.cs (fun h1 => ?_) (fun h1 => ?_)
  · refine xZ.one (pc' := 64) (lv' := [(0, .ref v0), (1, .int v1)]) (st' := []) (me := xm127) hP_127 rfl (by rw [h1]; rfl) ?_
    refine xZ.adv (me := xm127) hP_127 1 (pc' := 65) (lv' := [(0, .ref v0), (1, .int v1)]) (st' := [.ref v0]) rfl ?_
    refine xZ.k_gI (me := xm127) hP_127 rfl (fun x1 => ?_)
    exact xZ.reti (me := xm127) hP_127 rfl rfl
  refine xZ.cs (fun h2 => ?_) (fun h2 => ?_)
  · refine xZ.one (pc' := 69) (lv' := [(0, .ref v0), (1, .int v1)]) (st' := []) (me := xm127) hP_127 rfl (by rw [h2]; rfl) ?_
    refine xZ.adv (me := xm127) hP_127 1 (pc' := 70) (lv' := [(0, .ref v0), (1, .int v1)]) (st' := [.ref v0]) rfl ?_
    refine xZ.k_gR (me := xm127) hP_127 rfl (fun x2 => ?_)
    refine xZ.k_gI (me := xm127) hP_127 rfl (fun x3 => ?_)
    exact xZ.reti (me := xm127) hP_127 rfl rfl
  refine xZ.cs (fun h3 => ?_) (fun h3 => ?_)
  · refine xZ.one (pc' := 77) (lv' := [(0, .ref v0), (1, .int v1)]) (st' := []) (me := xm127) hP_127 rfl (by rw [h3]; rfl) ?_
    refine xZ.adv (me := xm127) hP_127 1 (pc' := 78) (lv' := [(0, .ref v0), (1, .int v1)]) (st' := [.ref v0]) rfl ?_
    refine xZ.k_gI (me := xm127) hP_127 rfl (fun x4 => ?_)
    exact xZ.reti (me := xm127) hP_127 rfl rfl
  refine xZ.cs (fun h4 => ?_) (fun h4 => ?_)
  · refine xZ.one (pc' := 82) (lv' := [(0, .ref v0), (1, .int v1)]) (st' := []) (me := xm127) hP_127 rfl (by rw [h4]; rfl) ?_
    refine xZ.adv (me := xm127) hP_127 1 (pc' := 83) (lv' := [(0, .ref v0), (1, .int v1)]) (st' := [.ref v0]) rfl ?_
    refine xZ.k_gI (me := xm127) hP_127 rfl (fun x5 => ?_)
    exact xZ.reti (me := xm127) hP_127 rfl rfl
  refine xZ.cs (fun h5 => ?_) (fun h5 => ?_)
  · refine xZ.one (pc' := 87) (lv' := [(0, .ref v0), (1, .int v1)]) (st' := []) (me := xm127) hP_127 rfl (by rw [h5]; rfl) ?_
    refine xZ.adv (me := xm127) hP_127 1 (pc' := 88) (lv' := [(0, .ref v0), (1, .int v1)]) (st' := [.ref v0]) rfl ?_
    refine xZ.k_gI (me := xm127) hP_127 rfl (fun x6 => ?_)
    exact xZ.reti (me := xm127) hP_127 rfl rfl
  refine xZ.cs (fun h6 => ?_) (fun h6 => ?_)
  · refine xZ.one (pc' := 92) (lv' := [(0, .ref v0), (1, .int v1)]) (st' := []) (me := xm127) hP_127 rfl (by rw [h6]; rfl) ?_
    refine xZ.adv (me := xm127) hP_127 1 (pc' := 93) (lv' := [(0, .ref v0), (1, .int v1)]) (st' := [.ref v0]) rfl ?_
    refine xZ.k_gI (me := xm127) hP_127 rfl (fun x7 => ?_)
    refine xZ.if_eq (me := xm127) hP_127 rfl (fun h7 => ?_) (fun h7 => ?_)
    · skip
      refine xZ.adv (me := xm127) hP_127 1 (pc' := 104) (lv' := [(0, .ref v0), (1, .int v1)]) (st' := [.int (0 : Int32)]) rfl ?_
      exact xZ.reti (me := xm127) hP_127 rfl rfl
    · skip
      refine xZ.adv (me := xm127) hP_127 2 (pc' := 104) (lv' := [(0, .ref v0), (1, .int v1)]) (st' := [.int (1 : Int32)]) rfl ?_
      exact xZ.reti (me := xm127) hP_127 rfl rfl
  refine xZ.cs (fun h8 => ?_) (fun h8 => ?_)
  · refine xZ.one (pc' := 105) (lv' := [(0, .ref v0), (1, .int v1)]) (st' := []) (me := xm127) hP_127 rfl (by rw [h8]; rfl) ?_
    refine xZ.adv (me := xm127) hP_127 1 (pc' := 106) (lv' := [(0, .ref v0), (1, .int v1)]) (st' := [.ref v0]) rfl ?_
    refine xZ.k_gR (me := xm127) hP_127 rfl (fun x8 => ?_)
    refine xZ.k_gI (me := xm127) hP_127 rfl (fun x9 => ?_)
    exact xZ.reti (me := xm127) hP_127 rfl rfl
  refine xZ.cs (fun h9 => ?_) (fun h9 => ?_)
  · refine xZ.one (pc' := 113) (lv' := [(0, .ref v0), (1, .int v1)]) (st' := []) (me := xm127) hP_127 rfl (by rw [h9]; rfl) ?_
    refine xZ.adv (me := xm127) hP_127 1 (pc' := 114) (lv' := [(0, .ref v0), (1, .int v1)]) (st' := [.ref v0]) rfl ?_
    refine xZ.k_gR (me := xm127) hP_127 rfl (fun x10 => ?_)
    refine xZ.k_gI (me := xm127) hP_127 rfl (fun x11 => ?_)
    exact xZ.reti (me := xm127) hP_127 rfl rfl
  refine xZ.cs (fun h10 => ?_) (fun h10 => ?_)
  · refine xZ.one (pc' := 121) (lv' := [(0, .ref v0), (1, .int v1)]) (st' := []) (me := xm127) hP_127 rfl (by rw [h10]; rfl) ?_
    refine xZ.adv (me := xm127) hP_127 1 (pc' := 122) (lv' := [(0, .ref v0), (1, .int v1)]) (st' := [.ref v0]) rfl ?_
    refine xZ.k_gR (me := xm127) hP_127 rfl (fun x12 => ?_)
    refine xZ.k_gI (me := xm127) hP_127 rfl (fun x13 => ?_)
    exact xZ.reti (me := xm127) hP_127 rfl rfl
  refine xZ.cs (fun h11 => ?_) (fun h11 => ?_)
  · refine xZ.one (pc' := 129) (lv' := [(0, .ref v0), (1, .int v1)]) (st' := []) (me := xm127) hP_127 rfl (by rw [h11]; rfl) ?_
    refine xZ.adv (me := xm127) hP_127 1 (pc' := 130) (lv' := [(0, .ref v0), (1, .int v1)]) (st' := [.ref v0]) rfl ?_
    refine xZ.k_gR (me := xm127) hP_127 rfl (fun x14 => ?_)
    refine xZ.k_gI (me := xm127) hP_127 rfl (fun x15 => ?_)
    exact xZ.reti (me := xm127) hP_127 rfl rfl
  refine xZ.cs (fun h12 => ?_) (fun h12 => ?_)
  · refine xZ.one (pc' := 137) (lv' := [(0, .ref v0), (1, .int v1)]) (st' := []) (me := xm127) hP_127 rfl (by rw [h12]; rfl) ?_
    refine xZ.adv (me := xm127) hP_127 1 (pc' := 138) (lv' := [(0, .ref v0), (1, .int v1)]) (st' := [.ref v0]) rfl ?_
    refine xZ.k_gR (me := xm127) hP_127 rfl (fun x16 => ?_)
    refine xZ.k_gI (me := xm127) hP_127 rfl (fun x17 => ?_)
    exact xZ.reti (me := xm127) hP_127 rfl rfl
  refine xZ.cs (fun h13 => ?_) (fun h13 => ?_)
  · refine xZ.one (pc' := 145) (lv' := [(0, .ref v0), (1, .int v1)]) (st' := []) (me := xm127) hP_127 rfl (by rw [h13]; rfl) ?_
    refine xZ.adv (me := xm127) hP_127 1 (pc' := 146) (lv' := [(0, .ref v0), (1, .int v1)]) (st' := [.ref v0]) rfl ?_
    refine xZ.k_gR (me := xm127) hP_127 rfl (fun x18 => ?_)
    refine xZ.k_gI (me := xm127) hP_127 rfl (fun x19 => ?_)
    exact xZ.reti (me := xm127) hP_127 rfl rfl
  refine xZ.tsw (pc' := 153) (me := xm127) hP_127 rfl (xsw_out v1 (by decide) [(0 : Int32), (1 : Int32), (2 : Int32), (3 : Int32), (4 : Int32), (5 : Int32), (6 : Int32), (7 : Int32), (8 : Int32), (9 : Int32), (10 : Int32), (11 : Int32)] (by decide) ⟨h1, h2, h3, h4, h5, h6, h8, h9, h10, h11, h12, h13, trivial⟩) rfl rfl ?_
  refine xZ.adv (me := xm127) hP_127 1 (pc' := 154) (lv' := [(0, .ref v0), (1, .int v1)]) (st' := [.ref v0]) rfl ?_
  refine xZ.k_gI (me := xm127) hP_127 rfl (fun x20 => ?_)
  exact xZ.reti (me := xm127) hP_127 rfl rfl
def f_Calendarhall_seriesAt (O : Nat → Option va_E) (f : Nat) (v0 : Nat) (v1 : Int32) (v2 : Int32) (M : xM) : Option (Int32 × xM) :=
  (isO O M v0 12).bind fun _ =>
  xcl (f_Calendarhall_seriesNumbered O f v0 v1 M) fun x1 M1 =>
  xcl (f_Calendarhall_needRange O f v2 (0 : Int32) (12 : Int32) M1) fun _ M2 =>
  (isO O M2 x1 10).bind fun _ =>
  xcl (f_Series_tell O f x1 v2 M2) fun x3 M3 =>
  some (x3, M3)
set_option maxRecDepth 20000 in
theorem k_f_Calendarhall_seriesAt (O : Nat → Option va_E) (f d : Nat) (v0 : Nat) (v1 : Int32) (v2 : Int32) (M : xM) : xZ oI O (d + 2) 126 0 [(0, .ref v0), (1, .int v1), (2, .int v2)] [] M (f_Calendarhall_seriesAt O f v0 v1 v2 M) := by
  unfold f_Calendarhall_seriesAt
  refine xZ.adv (me := xm126) hP_126 2 (pc' := 2) (lv' := [(0, .ref v0), (1, .int v1), (2, .int v2)]) (st' := [.int v1, .ref v0]) rfl ?_
  refine xZ.callv (κ := oR) (av := [.int v1]) (rest := []) (st' := fun x1 => [.ref x1]) (k0 := v0) (me := xm126) hP_126 rfl (Or.inl rfl) ⟨rfl, by decide⟩ rfl rfl (Nat.le_of_ble_eq_true rfl) (by decide) hP_79 (Nat.le_of_ble_eq_true rfl) (fun _ => rfl) (k_f_Calendarhall_seriesNumbered O f (d + 0) v0 v1 M) (fun x1 M1 => ?_)
  refine xZ.adv (me := xm126) hP_126 4 (pc' := 10) (lv' := [(3, .ref x1), (0, .ref v0), (1, .int v1), (2, .int v2)]) (st' := [.int (12 : Int32), .int (0 : Int32), .int v2]) rfl ?_
  refine xZ.calls (κ := oU) (av := [.int v2, .int (0 : Int32), .int (12 : Int32)]) (rest := []) (st' := fun _ => []) (me := xm126) hP_126 rfl rfl rfl (Nat.le_of_ble_eq_true rfl) (by decide) hP_22 (Nat.le_of_ble_eq_true rfl) (fun _ => rfl) (k_f_Calendarhall_needRange O f (d + 1) v2 (0 : Int32) (12 : Int32) M1) (fun _ M2 => ?_)
  refine xZ.adv (me := xm126) hP_126 2 (pc' := 15) (lv' := [(3, .ref x1), (0, .ref v0), (1, .int v1), (2, .int v2)]) (st' := [.int v2, .ref x1]) rfl ?_
  refine xZ.callv (κ := oI) (av := [.int v2]) (rest := []) (st' := fun x3 => [.int x3]) (k0 := x1) (me := xm126) hP_126 rfl (Or.inl rfl) ⟨rfl, by decide⟩ rfl rfl (Nat.le_of_ble_eq_true rfl) (by decide) hP_127 (Nat.le_of_ble_eq_true rfl) (fun _ => rfl) (k_f_Series_tell O f (d + 1) x1 v2 M2) (fun x3 M3 => ?_)
  exact xZ.reti (me := xm126) hP_126 rfl rfl
def f_Series_dropException (O : Nat → Option va_E) (f : Nat) (v0 : Nat) (v1 : Int32) (M : xM) : Option (Unit × xM) :=
  (gI O M v0 10 7).bind fun x1 =>
  if v1 < 0 then (
    some ((), M)
  ) else
  if (x1 - (1 : Int32)) < v1 then (
    some ((), M)
  ) else
  (gR O M v0 10 8).bind fun x2 =>
  (aN O M x2).bind fun x3 =>
  if x3 ≤ (x1 - (1 : Int32)) then (
    some ((), M)
  ) else
  (gR O M v0 10 9).bind fun x4 =>
  (aN O M x4).bind fun x5 =>
  if (x1 - (1 : Int32)) < x5 then (
    (gR O M v0 10 8).bind fun x6 =>
    (gR O M v0 10 8).bind fun x7 =>
    (aI O M x7 (x1 - (1 : Int32))).bind fun x8 =>
    (wI M x6 v1 x8).bind fun M1 =>
    (gR O M1 v0 10 9).bind fun x9 =>
    (gR O M1 v0 10 9).bind fun x10 =>
    (aI O M1 x10 (x1 - (1 : Int32))).bind fun x11 =>
    (wI M1 x9 v1 x11).bind fun M2 =>
    (pI M2 v0 10 7 (x1 - (1 : Int32))).bind fun M3 =>
    some ((), M3)
  ) else
  some ((), M)
set_option maxRecDepth 20000 in
theorem k_f_Series_dropException (O : Nat → Option va_E) (f d : Nat) (v0 : Nat) (v1 : Int32) (M : xM) : xZ oU O (d + 0) 130 0 [(0, .ref v0), (1, .int v1)] [] M (f_Series_dropException O f v0 v1 M) := by
  unfold f_Series_dropException
  refine xZ.adv (me := xm130) hP_130 1 (pc' := 1) (lv' := [(0, .ref v0), (1, .int v1)]) (st' := [.ref v0]) rfl ?_
  refine xZ.k_gI (me := xm130) hP_130 rfl (fun x1 => ?_)
  refine xZ.adv (me := xm130) hP_130 4 (pc' := 8) (lv' := [(2, .int (x1 - (1 : Int32))), (0, .ref v0), (1, .int v1)]) (st' := [.int v1]) rfl ?_
  refine xZ.if_lt (me := xm130) hP_130 rfl (fun h1 => ?_) (fun h1 => ?_)
  · skip
    exact xZ.retu (me := xm130) hP_130 rfl rfl
  · skip
    refine xZ.adv (me := xm130) hP_130 2 (pc' := 13) (lv' := [(2, .int (x1 - (1 : Int32))), (0, .ref v0), (1, .int v1)]) (st' := [.int (x1 - (1 : Int32)), .int v1]) rfl ?_
    refine xZ.ic_gt (me := xm130) hP_130 rfl (fun h2 => ?_) (fun h2 => ?_)
    · skip
      exact xZ.retu (me := xm130) hP_130 rfl rfl
    · skip
      refine xZ.adv (me := xm130) hP_130 2 (pc' := 18) (lv' := [(2, .int (x1 - (1 : Int32))), (0, .ref v0), (1, .int v1)]) (st' := [.ref v0, .int (x1 - (1 : Int32))]) rfl ?_
      refine xZ.k_gR (me := xm130) hP_130 rfl (fun x2 => ?_)
      refine xZ.k_aN (me := xm130) hP_130 rfl (fun x3 => ?_)
      refine xZ.ic_ge (me := xm130) hP_130 rfl (fun h3 => ?_) (fun h3 => ?_)
      · skip
        exact xZ.retu (me := xm130) hP_130 rfl rfl
      · skip
        refine xZ.adv (me := xm130) hP_130 2 (pc' := 27) (lv' := [(2, .int (x1 - (1 : Int32))), (0, .ref v0), (1, .int v1)]) (st' := [.ref v0, .int (x1 - (1 : Int32))]) rfl ?_
        refine xZ.k_gR (me := xm130) hP_130 rfl (fun x4 => ?_)
        refine xZ.k_aN (me := xm130) hP_130 rfl (fun x5 => ?_)
        refine xZ.ic_lt (me := xm130) hP_130 rfl (fun h4 => ?_) (fun h4 => ?_)
        · skip
          refine xZ.adv (me := xm130) hP_130 1 (pc' := 36) (lv' := [(2, .int (x1 - (1 : Int32))), (0, .ref v0), (1, .int v1)]) (st' := [.ref v0]) rfl ?_
          refine xZ.k_gR (me := xm130) hP_130 rfl (fun x6 => ?_)
          refine xZ.adv (me := xm130) hP_130 2 (pc' := 41) (lv' := [(2, .int (x1 - (1 : Int32))), (0, .ref v0), (1, .int v1)]) (st' := [.ref v0, .int v1, .ref x6]) rfl ?_
          refine xZ.k_gR (me := xm130) hP_130 rfl (fun x7 => ?_)
          refine xZ.adv (me := xm130) hP_130 1 (pc' := 45) (lv' := [(2, .int (x1 - (1 : Int32))), (0, .ref v0), (1, .int v1)]) (st' := [.int (x1 - (1 : Int32)), .ref x7, .int v1, .ref x6]) rfl ?_
          refine xZ.k_aI (me := xm130) hP_130 rfl (fun x8 => ?_)
          refine xZ.k_wI (me := xm130) hP_130 rfl (fun M1 => ?_)
          refine xZ.adv (me := xm130) hP_130 1 (pc' := 48) (lv' := [(2, .int (x1 - (1 : Int32))), (0, .ref v0), (1, .int v1)]) (st' := [.ref v0]) rfl ?_
          refine xZ.k_gR (me := xm130) hP_130 rfl (fun x9 => ?_)
          refine xZ.adv (me := xm130) hP_130 2 (pc' := 53) (lv' := [(2, .int (x1 - (1 : Int32))), (0, .ref v0), (1, .int v1)]) (st' := [.ref v0, .int v1, .ref x9]) rfl ?_
          refine xZ.k_gR (me := xm130) hP_130 rfl (fun x10 => ?_)
          refine xZ.adv (me := xm130) hP_130 1 (pc' := 57) (lv' := [(2, .int (x1 - (1 : Int32))), (0, .ref v0), (1, .int v1)]) (st' := [.int (x1 - (1 : Int32)), .ref x10, .int v1, .ref x9]) rfl ?_
          refine xZ.k_aI (me := xm130) hP_130 rfl (fun x11 => ?_)
          refine xZ.k_wI (me := xm130) hP_130 rfl (fun M2 => ?_)
          refine xZ.adv (me := xm130) hP_130 2 (pc' := 61) (lv' := [(2, .int (x1 - (1 : Int32))), (0, .ref v0), (1, .int v1)]) (st' := [.int (x1 - (1 : Int32)), .ref v0]) rfl ?_
          refine xZ.k_pI (me := xm130) hP_130 rfl (fun M3 => ?_)
          exact xZ.retu (me := xm130) hP_130 rfl rfl
        · skip
          exact xZ.retu (me := xm130) hP_130 rfl rfl
def f_Series_keepExceptions_39 (O : Nat → Option va_E) (f : Nat) (K15 : Nat → Int32 → Int32 → Int32 → xM → Option (Unit × xM)) (v0 : Nat) (v1 : Int32) (v2 : Int32) (v3 : Int32) (M : xM) : Option (Unit × xM) :=
  (isO O M v0 10).bind fun _ =>
  xcl (f_Series_dropException O f v0 v3 M) fun _ M1 =>
  K15 v0 v1 v2 (v3 + (-1 : Int32)) M1
set_option maxRecDepth 20000 in
theorem k_f_Series_keepExceptions_39 (O : Nat → Option va_E) (f d : Nat) (K15 : Nat → Int32 → Int32 → Int32 → xM → Option (Unit × xM)) (hK15 : ∀ (v0 : Nat) (v1 : Int32) (v2 : Int32) (v3 : Int32) M, xZ oU O (d + 1) 129 15 [(0, .ref v0), (1, .int v1), (2, .int v2), (3, .int v3)] [] M (K15 v0 v1 v2 v3 M)) (v0 : Nat) (v1 : Int32) (v2 : Int32) (v3 : Int32) (M : xM) : xZ oU O (d + 1) 129 39 [(0, .ref v0), (1, .int v1), (2, .int v2), (3, .int v3)] [] M (f_Series_keepExceptions_39 O f K15 v0 v1 v2 v3 M) := by
  unfold f_Series_keepExceptions_39
  refine xZ.adv (me := xm129) hP_129 2 (pc' := 41) (lv' := [(0, .ref v0), (1, .int v1), (2, .int v2), (3, .int v3)]) (st' := [.int v3, .ref v0]) rfl ?_
  refine xZ.callv (κ := oU) (av := [.int v3]) (rest := []) (st' := fun _ => []) (k0 := v0) (me := xm129) hP_129 rfl (Or.inl rfl) ⟨rfl, by decide⟩ rfl rfl (Nat.le_of_ble_eq_true rfl) (by decide) hP_130 (Nat.le_of_ble_eq_true rfl) (fun _ => rfl) (k_f_Series_dropException O f (d + 0) v0 v3 M) (fun _ M1 => ?_)
  refine xZ.adv (me := xm129) hP_129 2 (pc' := 15) (lv' := [(3, .int (v3 + (-1 : Int32))), (0, .ref v0), (1, .int v1), (2, .int v2)]) (st' := []) rfl ?_
  exact xZ.sub (xsc (.tail _ (.head _)) (xsc (.tail _ (.tail _ (.head _))) (xsc (.tail _ (.tail _ (.tail _ (.head _)))) (xsc (.head _) xsn)))) (show ([3, 0, 1, 2] : List Nat).Nodup from by decide) (hK15 v0 v1 v2 (v3 + (-1 : Int32)) M1)
def f_Series_keepExceptions_15 (O : Nat → Option va_E) (f : Nat) : Nat → Nat → Int32 → Int32 → Int32 → xM → Option (Unit × xM)
  | 0, _, _, _, _, _ => none
  | n + 1, v0, v1, v2, v3, M =>
    if v3 < 0 then (
      some ((), M)
    ) else
    (gR O M v0 10 8).bind fun x1 =>
    (aI O M x1 v3).bind fun x2 =>
    if x2 < v1 then (
      f_Series_keepExceptions_39 O f (f_Series_keepExceptions_15 O f n) v0 v1 v2 v3 M
    ) else
    (gR O M v0 10 8).bind fun x3 =>
    (aI O M x3 v3).bind fun x4 =>
    if x4 ≤ v2 then (
      f_Series_keepExceptions_15 O f n v0 v1 v2 (v3 + (-1 : Int32)) M
    ) else
    f_Series_keepExceptions_39 O f (f_Series_keepExceptions_15 O f n) v0 v1 v2 v3 M
set_option maxRecDepth 20000 in
theorem k_f_Series_keepExceptions_15 (O : Nat → Option va_E) (f d : Nat) : ∀ (n : Nat) (v0 : Nat) (v1 : Int32) (v2 : Int32) (v3 : Int32) (M : xM), xZ oU O (d + 1) 129 15 [(0, .ref v0), (1, .int v1), (2, .int v2), (3, .int v3)] [] M (f_Series_keepExceptions_15 O f n v0 v1 v2 v3 M) := by
  intro n
  induction n with
  | zero =>
    intro v0 v1 v2 v3 M
    exact xZ.no
  | succ n ih =>
    intro v0 v1 v2 v3 M
    unfold f_Series_keepExceptions_15
    refine xZ.adv (me := xm129) hP_129 1 (pc' := 16) (lv' := [(0, .ref v0), (1, .int v1), (2, .int v2), (3, .int v3)]) (st' := [.int v3]) rfl ?_
    refine xZ.if_lt (me := xm129) hP_129 rfl (fun h1 => ?_) (fun h1 => ?_)
    · skip
      exact xZ.retu (me := xm129) hP_129 rfl rfl
    · skip
      refine xZ.adv (me := xm129) hP_129 1 (pc' := 20) (lv' := [(0, .ref v0), (1, .int v1), (2, .int v2), (3, .int v3)]) (st' := [.ref v0]) rfl ?_
      refine xZ.k_gR (me := xm129) hP_129 rfl (fun x1 => ?_)
      refine xZ.adv (me := xm129) hP_129 1 (pc' := 24) (lv' := [(0, .ref v0), (1, .int v1), (2, .int v2), (3, .int v3)]) (st' := [.int v3, .ref x1]) rfl ?_
      refine xZ.k_aI (me := xm129) hP_129 rfl (fun x2 => ?_)
      refine xZ.adv (me := xm129) hP_129 1 (pc' := 26) (lv' := [(0, .ref v0), (1, .int v1), (2, .int v2), (3, .int v3)]) (st' := [.int v1, .int x2]) rfl ?_
      refine xZ.ic_lt (me := xm129) hP_129 rfl (fun h2 => ?_) (fun h2 => ?_)
      · skip
        exact (k_f_Series_keepExceptions_39 O f d (f_Series_keepExceptions_15 O f n) ih v0 v1 v2 v3 M)
      · skip
        refine xZ.adv (me := xm129) hP_129 1 (pc' := 30) (lv' := [(0, .ref v0), (1, .int v1), (2, .int v2), (3, .int v3)]) (st' := [.ref v0]) rfl ?_
        refine xZ.k_gR (me := xm129) hP_129 rfl (fun x3 => ?_)
        refine xZ.adv (me := xm129) hP_129 1 (pc' := 34) (lv' := [(0, .ref v0), (1, .int v1), (2, .int v2), (3, .int v3)]) (st' := [.int v3, .ref x3]) rfl ?_
        refine xZ.k_aI (me := xm129) hP_129 rfl (fun x4 => ?_)
        refine xZ.adv (me := xm129) hP_129 1 (pc' := 36) (lv' := [(0, .ref v0), (1, .int v1), (2, .int v2), (3, .int v3)]) (st' := [.int v2, .int x4]) rfl ?_
        refine xZ.ic_le (me := xm129) hP_129 rfl (fun h3 => ?_) (fun h3 => ?_)
        · skip
          refine xZ.adv (me := xm129) hP_129 2 (pc' := 15) (lv' := [(3, .int (v3 + (-1 : Int32))), (0, .ref v0), (1, .int v1), (2, .int v2)]) (st' := []) rfl ?_
          exact xZ.sub (xsc (.tail _ (.head _)) (xsc (.tail _ (.tail _ (.head _))) (xsc (.tail _ (.tail _ (.tail _ (.head _)))) (xsc (.head _) xsn)))) (show ([3, 0, 1, 2] : List Nat).Nodup from by decide) (ih v0 v1 v2 (v3 + (-1 : Int32)) M)
        · skip
          exact (k_f_Series_keepExceptions_39 O f d (f_Series_keepExceptions_15 O f n) ih v0 v1 v2 v3 M)
def f_Series_keepExceptions (O : Nat → Option va_E) (f : Nat) (v0 : Nat) (v1 : Int32) (v2 : Int32) (M : xM) : Option (Unit × xM) :=
  (gI O M v0 10 7).bind fun x1 =>
  (gR O M v0 10 8).bind fun x2 =>
  (aN O M x2).bind fun x3 =>
  xcl (f_Math_min O f x1 x3 M) fun x4 M1 =>
  f_Series_keepExceptions_15 O f f v0 v1 v2 (x4 - (1 : Int32)) M1
set_option maxRecDepth 20000 in
theorem k_f_Series_keepExceptions (O : Nat → Option va_E) (f d : Nat) (v0 : Nat) (v1 : Int32) (v2 : Int32) (M : xM) : xZ oU O (d + 1) 129 0 [(0, .ref v0), (1, .int v1), (2, .int v2)] [] M (f_Series_keepExceptions O f v0 v1 v2 M) := by
  unfold f_Series_keepExceptions
  refine xZ.adv (me := xm129) hP_129 1 (pc' := 1) (lv' := [(0, .ref v0), (1, .int v1), (2, .int v2)]) (st' := [.ref v0]) rfl ?_
  refine xZ.k_gI (me := xm129) hP_129 rfl (fun x1 => ?_)
  refine xZ.adv (me := xm129) hP_129 1 (pc' := 5) (lv' := [(0, .ref v0), (1, .int v1), (2, .int v2)]) (st' := [.ref v0, .int x1]) rfl ?_
  refine xZ.k_gR (me := xm129) hP_129 rfl (fun x2 => ?_)
  refine xZ.k_aN (me := xm129) hP_129 rfl (fun x3 => ?_)
  refine xZ.calls (κ := oI) (av := [.int x1, .int x3]) (rest := []) (st' := fun x4 => [.int x4]) (me := xm129) hP_129 rfl rfl rfl (Nat.le_of_ble_eq_true rfl) (by decide) hP_248 (Nat.le_of_ble_eq_true rfl) (fun _ => rfl) (k_f_Math_min O f (d + 0) x1 x3 M) (fun x4 M1 => ?_)
  refine xZ.adv (me := xm129) hP_129 3 (pc' := 15) (lv' := [(3, .int (x4 - (1 : Int32))), (0, .ref v0), (1, .int v1), (2, .int v2)]) (st' := []) rfl ?_
  exact xZ.sub (xsc (.tail _ (.head _)) (xsc (.tail _ (.tail _ (.head _))) (xsc (.tail _ (.tail _ (.tail _ (.head _)))) (xsc (.head _) xsn)))) (show ([3, 0, 1, 2] : List Nat).Nodup from by decide) (k_f_Series_keepExceptions_15 O f d f v0 v1 v2 (x4 - (1 : Int32)) M1)
def f_Rule_beginAt_28 (O : Nat → Option va_E) (f : Nat) (v0 : Nat) (v1 : Int32) (M : xM) : Option (Unit × xM) :=
  (pI M v0 9 0 v1).bind fun M1 =>
  some ((), M1)
set_option maxRecDepth 20000 in
theorem k_f_Rule_beginAt_28 (O : Nat → Option va_E) (f d : Nat) (v0 : Nat) (v1 : Int32) (M : xM) : xZ oU O (d + 5) 131 28 [(0, .ref v0), (1, .int v1)] [] M (f_Rule_beginAt_28 O f v0 v1 M) := by
  unfold f_Rule_beginAt_28
  refine xZ.adv (me := xm131) hP_131 2 (pc' := 30) (lv' := [(0, .ref v0), (1, .int v1)]) (st' := [.int v1, .ref v0]) rfl ?_
  refine xZ.k_pI (me := xm131) hP_131 rfl (fun M1 => ?_)
  exact xZ.retu (me := xm131) hP_131 rfl rfl
def f_Rule_beginAt (O : Nat → Option va_E) (f : Nat) (v0 : Nat) (v1 : Int32) (M : xM) : Option (Unit × xM) :=
  (gI O M v0 9 5).bind fun x1 =>
  if x1 = (1 : Int32) then (
    (gI O M v0 9 6).bind fun x2 =>
    (gI O M v0 9 0).bind fun x3 =>
    (isO O M v0 9).bind fun _ =>
    xcl (f_Rule_count O f v0 x3 (v1 - (1 : Int32)) M) fun x4 M1 =>
    (pI M1 v0 9 6 (x2 - x4)).bind fun M2 =>
    f_Rule_beginAt_28 O f v0 v1 M2
  ) else
  f_Rule_beginAt_28 O f v0 v1 M
set_option maxRecDepth 20000 in
theorem k_f_Rule_beginAt (O : Nat → Option va_E) (f d : Nat) (v0 : Nat) (v1 : Int32) (M : xM) : xZ oU O (d + 5) 131 0 [(0, .ref v0), (1, .int v1)] [] M (f_Rule_beginAt O f v0 v1 M) := by
  unfold f_Rule_beginAt
  refine xZ.adv (me := xm131) hP_131 1 (pc' := 1) (lv' := [(0, .ref v0), (1, .int v1)]) (st' := [.ref v0]) rfl ?_
  refine xZ.k_gI (me := xm131) hP_131 rfl (fun x1 => ?_)
  refine xZ.adv (me := xm131) hP_131 1 (pc' := 5) (lv' := [(0, .ref v0), (1, .int v1)]) (st' := [.int (1 : Int32), .int x1]) rfl ?_
  refine xZ.ic_ne (me := xm131) hP_131 rfl (fun h1 => ?_) (fun h1 => ?_)
  · skip
    refine xZ.adv (me := xm131) hP_131 2 (pc' := 10) (lv' := [(0, .ref v0), (1, .int v1)]) (st' := [.ref v0, .ref v0]) rfl ?_
    refine xZ.k_gI (me := xm131) hP_131 rfl (fun x2 => ?_)
    refine xZ.adv (me := xm131) hP_131 2 (pc' := 15) (lv' := [(0, .ref v0), (1, .int v1)]) (st' := [.ref v0, .ref v0, .int x2, .ref v0]) rfl ?_
    refine xZ.k_gI (me := xm131) hP_131 rfl (fun x3 => ?_)
    refine xZ.adv (me := xm131) hP_131 3 (pc' := 21) (lv' := [(0, .ref v0), (1, .int v1)]) (st' := [.int (v1 - (1 : Int32)), .int x3, .ref v0, .int x2, .ref v0]) rfl ?_
    refine xZ.callv (κ := oI) (av := [.int x3, .int (v1 - (1 : Int32))]) (rest := [.int x2, .ref v0]) (st' := fun x4 => [.int x4, .int x2, .ref v0]) (k0 := v0) (me := xm131) hP_131 rfl (Or.inl rfl) ⟨rfl, by decide⟩ rfl rfl (Nat.le_of_ble_eq_true rfl) (by decide) hP_94 (Nat.le_of_ble_eq_true rfl) (fun _ => rfl) (k_f_Rule_count O f (d + 0) v0 x3 (v1 - (1 : Int32)) M) (fun x4 M1 => ?_)
    refine xZ.adv (me := xm131) hP_131 1 (pc' := 25) (lv' := [(0, .ref v0), (1, .int v1)]) (st' := [.int (x2 - x4), .ref v0]) rfl ?_
    refine xZ.k_pI (me := xm131) hP_131 rfl (fun M2 => ?_)
    exact (k_f_Rule_beginAt_28 O f d v0 v1 M2)
  · skip
    exact (k_f_Rule_beginAt_28 O f d v0 v1 M)
def f_Calendarhall_fromHere (O : Nat → Option va_E) (f : Nat) (v0 : Nat) (v1 : Int32) (v2 : Int32) (v3 : Int32) (v4 : Int32) (M : xM) : Option (Int32 × xM) :=
  (isO O M v0 12).bind fun _ =>
  xcl (f_Calendarhall_seriesNumbered O f v0 v1 M) fun x1 M1 =>
  xcl (f_Calendarhall_needRange O f v3 (0 : Int32) (1439 : Int32) M1) fun _ M2 =>
  xcl (f_Calendarhall_needRange O f v4 (1 : Int32) (600 : Int32) M2) fun _ M3 =>
  (gR O M3 x1 10 6).bind fun x4 =>
  (isO O M3 x4 9).bind fun _ =>
  xcl (f_Rule_isDay O f x4 v2 M3) fun x5 M4 =>
  if x5 = 0 then (
    none
  ) else
  (gR O M4 x1 10 6).bind fun x6 =>
  (isO O M4 x6 9).bind fun _ =>
  xcl (f_Rule_next O f x6 (10 : Int32) M4) fun x7 M5 =>
  if x7 = v2 then (
    none
  ) else
  (gR O M5 v0 12 0).bind fun x8 =>
  (isO O M5 x8 4).bind fun _ =>
  xcl (f_Hall_freeSeries O f x8 M5) fun x9 M6 =>
  if x9 = (-1 : Int32) then (
    none
  ) else
  (isO O M6 v0 12).bind fun _ =>
  xcl (f_Calendarhall_saveForUndo O f v0 M6) fun _ M7 =>
  (gR O M7 v0 12 0).bind fun x11 =>
  (isO O M7 x11 4).bind fun _ =>
  xcl (f_Hall_anySeries O f x11 x9 M7) fun x12 M8 =>
  (isO O M8 x12 10).bind fun _ =>
  xcl (f_Series_copyFrom O f x12 x1 M8) fun _ M9 =>
  (pI M9 x12 10 2 v3).bind fun M10 =>
  (pI M10 x12 10 3 v4).bind fun M11 =>
  (isO O M11 x12 10).bind fun _ =>
  xcl (f_Series_keepExceptions O f x12 v2 (146000 : Int32) M11) fun _ M12 =>
  (gR O M12 x12 10 6).bind fun x15 =>
  (isO O M12 x15 9).bind fun _ =>
  xcl (f_Rule_beginAt O f x15 v2 M12) fun _ M13 =>
  (isO O M13 x1 10).bind fun _ =>
  xcl (f_Series_keepExceptions O f x1 (10 : Int32) (v2 - (1 : Int32)) M13) fun _ M14 =>
  (gR O M14 x1 10 6).bind fun x18 =>
  (isO O M14 x18 9).bind fun _ =>
  xcl (f_Rule_putEnd O f x18 (2 : Int32) (v2 - (1 : Int32)) M14) fun _ M15 =>
  (gR O M15 x1 10 6).bind fun x20 =>
  (isO O M15 x20 9).bind fun _ =>
  xcl (f_Rule_settle O f x20 M15) fun _ M16 =>
  some (x9, M16)
set_option maxRecDepth 20000 in
theorem k_f_Calendarhall_fromHere (O : Nat → Option va_E) (f d : Nat) (v0 : Nat) (v1 : Int32) (v2 : Int32) (v3 : Int32) (v4 : Int32) (M : xM) : xZ oI O (d + 7) 128 0 [(0, .ref v0), (1, .int v1), (2, .int v2), (3, .int v3), (4, .int v4)] [] M (f_Calendarhall_fromHere O f v0 v1 v2 v3 v4 M) := by
  unfold f_Calendarhall_fromHere
  refine xZ.adv (me := xm128) hP_128 2 (pc' := 2) (lv' := [(0, .ref v0), (1, .int v1), (2, .int v2), (3, .int v3), (4, .int v4)]) (st' := [.int v1, .ref v0]) rfl ?_
  refine xZ.callv (κ := oR) (av := [.int v1]) (rest := []) (st' := fun x1 => [.ref x1]) (k0 := v0) (me := xm128) hP_128 rfl (Or.inl rfl) ⟨rfl, by decide⟩ rfl rfl (Nat.le_of_ble_eq_true rfl) (by decide) hP_79 (Nat.le_of_ble_eq_true rfl) (fun _ => rfl) (k_f_Calendarhall_seriesNumbered O f (d + 5) v0 v1 M) (fun x1 M1 => ?_)
  refine xZ.adv (me := xm128) hP_128 4 (pc' := 12) (lv' := [(5, .ref x1), (0, .ref v0), (1, .int v1), (2, .int v2), (3, .int v3), (4, .int v4)]) (st' := [.int (1439 : Int32), .int (0 : Int32), .int v3]) rfl ?_
  refine xZ.calls (κ := oU) (av := [.int v3, .int (0 : Int32), .int (1439 : Int32)]) (rest := []) (st' := fun _ => []) (me := xm128) hP_128 rfl rfl rfl (Nat.le_of_ble_eq_true rfl) (by decide) hP_22 (Nat.le_of_ble_eq_true rfl) (fun _ => rfl) (k_f_Calendarhall_needRange O f (d + 6) v3 (0 : Int32) (1439 : Int32) M1) (fun _ M2 => ?_)
  refine xZ.adv (me := xm128) hP_128 3 (pc' := 21) (lv' := [(5, .ref x1), (0, .ref v0), (1, .int v1), (2, .int v2), (3, .int v3), (4, .int v4)]) (st' := [.int (600 : Int32), .int (1 : Int32), .int v4]) rfl ?_
  refine xZ.calls (κ := oU) (av := [.int v4, .int (1 : Int32), .int (600 : Int32)]) (rest := []) (st' := fun _ => []) (me := xm128) hP_128 rfl rfl rfl (Nat.le_of_ble_eq_true rfl) (by decide) hP_22 (Nat.le_of_ble_eq_true rfl) (fun _ => rfl) (k_f_Calendarhall_needRange O f (d + 6) v4 (1 : Int32) (600 : Int32) M2) (fun _ M3 => ?_)
  refine xZ.adv (me := xm128) hP_128 1 (pc' := 26) (lv' := [(5, .ref x1), (0, .ref v0), (1, .int v1), (2, .int v2), (3, .int v3), (4, .int v4)]) (st' := [.ref x1]) rfl ?_
  refine xZ.k_gR (me := xm128) hP_128 rfl (fun x4 => ?_)
  refine xZ.adv (me := xm128) hP_128 1 (pc' := 30) (lv' := [(5, .ref x1), (0, .ref v0), (1, .int v1), (2, .int v2), (3, .int v3), (4, .int v4)]) (st' := [.int v2, .ref x4]) rfl ?_
  refine xZ.callv (κ := oI) (av := [.int v2]) (rest := []) (st' := fun x5 => [.int x5]) (k0 := x4) (me := xm128) hP_128 rfl (Or.inl rfl) ⟨rfl, by decide⟩ rfl rfl (Nat.le_of_ble_eq_true rfl) (by decide) hP_99 (Nat.le_of_ble_eq_true rfl) (fun _ => rfl) (k_f_Rule_isDay O f (d + 3) x4 v2 M3) (fun x5 M4 => ?_)
  refine xZ.if_eq (me := xm128) hP_128 rfl (fun h1 => ?_) (fun h1 => ?_)
  · skip
    exact xZ.no
  · skip
    refine xZ.adv (me := xm128) hP_128 1 (pc' := 38) (lv' := [(5, .ref x1), (0, .ref v0), (1, .int v1), (2, .int v2), (3, .int v3), (4, .int v4)]) (st' := [.ref x1]) rfl ?_
    refine xZ.k_gR (me := xm128) hP_128 rfl (fun x6 => ?_)
    refine xZ.adv (me := xm128) hP_128 1 (pc' := 43) (lv' := [(5, .ref x1), (0, .ref v0), (1, .int v1), (2, .int v2), (3, .int v3), (4, .int v4)]) (st' := [.int (10 : Int32), .ref x6]) rfl ?_
    refine xZ.callv (κ := oI) (av := [.int (10 : Int32)]) (rest := []) (st' := fun x7 => [.int x7]) (k0 := x6) (me := xm128) hP_128 rfl (Or.inl rfl) ⟨rfl, by decide⟩ rfl rfl (Nat.le_of_ble_eq_true rfl) (by decide) hP_45 (Nat.le_of_ble_eq_true rfl) (fun _ => rfl) (k_f_Rule_next O f (d + 2) x6 (10 : Int32) M4) (fun x7 M5 => ?_)
    refine xZ.adv (me := xm128) hP_128 1 (pc' := 47) (lv' := [(5, .ref x1), (0, .ref v0), (1, .int v1), (2, .int v2), (3, .int v3), (4, .int v4)]) (st' := [.int v2, .int x7]) rfl ?_
    refine xZ.ic_ne (me := xm128) hP_128 rfl (fun h2 => ?_) (fun h2 => ?_)
    · skip
      exact xZ.no
    · skip
      refine xZ.adv (me := xm128) hP_128 1 (pc' := 59) (lv' := [(5, .ref x1), (0, .ref v0), (1, .int v1), (2, .int v2), (3, .int v3), (4, .int v4)]) (st' := [.ref v0]) rfl ?_
      refine xZ.k_gR (me := xm128) hP_128 rfl (fun x8 => ?_)
      refine xZ.callv (κ := oI) (av := []) (rest := []) (st' := fun x9 => [.int x9]) (k0 := x8) (me := xm128) hP_128 rfl (Or.inl rfl) ⟨rfl, by decide⟩ rfl rfl (Nat.le_of_ble_eq_true rfl) (by decide) hP_38 (Nat.le_of_ble_eq_true rfl) (fun _ => rfl) (k_f_Hall_freeSeries O f (d + 6) x8 M5) (fun x9 M6 => ?_)
      refine xZ.adv (me := xm128) hP_128 3 (pc' := 70) (lv' := [(6, .int x9), (5, .ref x1), (0, .ref v0), (1, .int v1), (2, .int v2), (3, .int v3), (4, .int v4)]) (st' := [.int (-1 : Int32), .int x9]) rfl ?_
      refine xZ.ic_ne (me := xm128) hP_128 rfl (fun h3 => ?_) (fun h3 => ?_)
      · skip
        exact xZ.no
      · skip
        refine xZ.adv (me := xm128) hP_128 1 (pc' := 82) (lv' := [(6, .int x9), (5, .ref x1), (0, .ref v0), (1, .int v1), (2, .int v2), (3, .int v3), (4, .int v4)]) (st' := [.ref v0]) rfl ?_
        refine xZ.callv (κ := oU) (av := []) (rest := []) (st' := fun _ => []) (k0 := v0) (me := xm128) hP_128 rfl (Or.inl rfl) ⟨rfl, by decide⟩ rfl rfl (Nat.le_of_ble_eq_true rfl) (by decide) hP_23 (Nat.le_of_ble_eq_true rfl) (fun _ => rfl) (k_f_Calendarhall_saveForUndo O f (d + 2) v0 M6) (fun _ M7 => ?_)
        refine xZ.adv (me := xm128) hP_128 1 (pc' := 86) (lv' := [(6, .int x9), (5, .ref x1), (0, .ref v0), (1, .int v1), (2, .int v2), (3, .int v3), (4, .int v4)]) (st' := [.ref v0]) rfl ?_
        refine xZ.k_gR (me := xm128) hP_128 rfl (fun x11 => ?_)
        refine xZ.adv (me := xm128) hP_128 1 (pc' := 91) (lv' := [(6, .int x9), (5, .ref x1), (0, .ref v0), (1, .int v1), (2, .int v2), (3, .int v3), (4, .int v4)]) (st' := [.int x9, .ref x11]) rfl ?_
        refine xZ.callv (κ := oR) (av := [.int x9]) (rest := []) (st' := fun x12 => [.ref x12]) (k0 := x11) (me := xm128) hP_128 rfl (Or.inl rfl) ⟨rfl, by decide⟩ rfl rfl (Nat.le_of_ble_eq_true rfl) (by decide) hP_29 (Nat.le_of_ble_eq_true rfl) (fun _ => rfl) (k_f_Hall_anySeries O f (d + 6) x11 x9 M7) (fun x12 M8 => ?_)
        refine xZ.adv (me := xm128) hP_128 3 (pc' := 100) (lv' := [(7, .ref x12), (6, .int x9), (5, .ref x1), (0, .ref v0), (1, .int v1), (2, .int v2), (3, .int v3), (4, .int v4)]) (st' := [.ref x1, .ref x12]) rfl ?_
        refine xZ.callv (κ := oU) (av := [.ref x1]) (rest := []) (st' := fun _ => []) (k0 := x12) (me := xm128) hP_128 rfl (Or.inl rfl) ⟨rfl, by decide⟩ rfl rfl (Nat.le_of_ble_eq_true rfl) (by decide) hP_30 (Nat.le_of_ble_eq_true rfl) (fun _ => rfl) (k_f_Series_copyFrom O f (d + 4) x12 x1 M8) (fun _ M9 => ?_)
        refine xZ.adv (me := xm128) hP_128 2 (pc' := 106) (lv' := [(7, .ref x12), (6, .int x9), (5, .ref x1), (0, .ref v0), (1, .int v1), (2, .int v2), (3, .int v3), (4, .int v4)]) (st' := [.int v3, .ref x12]) rfl ?_
        refine xZ.k_pI (me := xm128) hP_128 rfl (fun M10 => ?_)
        refine xZ.adv (me := xm128) hP_128 2 (pc' := 113) (lv' := [(7, .ref x12), (6, .int x9), (5, .ref x1), (0, .ref v0), (1, .int v1), (2, .int v2), (3, .int v3), (4, .int v4)]) (st' := [.int v4, .ref x12]) rfl ?_
        refine xZ.k_pI (me := xm128) hP_128 rfl (fun M11 => ?_)
        refine xZ.adv (me := xm128) hP_128 3 (pc' := 121) (lv' := [(7, .ref x12), (6, .int x9), (5, .ref x1), (0, .ref v0), (1, .int v1), (2, .int v2), (3, .int v3), (4, .int v4)]) (st' := [.int (146000 : Int32), .int v2, .ref x12]) rfl ?_
        refine xZ.callv (κ := oU) (av := [.int v2, .int (146000 : Int32)]) (rest := []) (st' := fun _ => []) (k0 := x12) (me := xm128) hP_128 rfl (Or.inl rfl) ⟨rfl, by decide⟩ rfl rfl (Nat.le_of_ble_eq_true rfl) (by decide) hP_129 (Nat.le_of_ble_eq_true rfl) (fun _ => rfl) (k_f_Series_keepExceptions O f (d + 5) x12 v2 (146000 : Int32) M11) (fun _ M12 => ?_)
        refine xZ.adv (me := xm128) hP_128 1 (pc' := 126) (lv' := [(7, .ref x12), (6, .int x9), (5, .ref x1), (0, .ref v0), (1, .int v1), (2, .int v2), (3, .int v3), (4, .int v4)]) (st' := [.ref x12]) rfl ?_
        refine xZ.k_gR (me := xm128) hP_128 rfl (fun x15 => ?_)
        refine xZ.adv (me := xm128) hP_128 1 (pc' := 130) (lv' := [(7, .ref x12), (6, .int x9), (5, .ref x1), (0, .ref v0), (1, .int v1), (2, .int v2), (3, .int v3), (4, .int v4)]) (st' := [.int v2, .ref x15]) rfl ?_
        refine xZ.callv (κ := oU) (av := [.int v2]) (rest := []) (st' := fun _ => []) (k0 := x15) (me := xm128) hP_128 rfl (Or.inl rfl) ⟨rfl, by decide⟩ rfl rfl (Nat.le_of_ble_eq_true rfl) (by decide) hP_131 (Nat.le_of_ble_eq_true rfl) (fun _ => rfl) (k_f_Rule_beginAt O f (d + 1) x15 v2 M12) (fun _ M13 => ?_)
        refine xZ.adv (me := xm128) hP_128 5 (pc' := 140) (lv' := [(7, .ref x12), (6, .int x9), (5, .ref x1), (0, .ref v0), (1, .int v1), (2, .int v2), (3, .int v3), (4, .int v4)]) (st' := [.int (v2 - (1 : Int32)), .int (10 : Int32), .ref x1]) rfl ?_
        refine xZ.callv (κ := oU) (av := [.int (10 : Int32), .int (v2 - (1 : Int32))]) (rest := []) (st' := fun _ => []) (k0 := x1) (me := xm128) hP_128 rfl (Or.inl rfl) ⟨rfl, by decide⟩ rfl rfl (Nat.le_of_ble_eq_true rfl) (by decide) hP_129 (Nat.le_of_ble_eq_true rfl) (fun _ => rfl) (k_f_Series_keepExceptions O f (d + 5) x1 (10 : Int32) (v2 - (1 : Int32)) M13) (fun _ M14 => ?_)
        refine xZ.adv (me := xm128) hP_128 1 (pc' := 145) (lv' := [(7, .ref x12), (6, .int x9), (5, .ref x1), (0, .ref v0), (1, .int v1), (2, .int v2), (3, .int v3), (4, .int v4)]) (st' := [.ref x1]) rfl ?_
        refine xZ.k_gR (me := xm128) hP_128 rfl (fun x18 => ?_)
        refine xZ.adv (me := xm128) hP_128 4 (pc' := 152) (lv' := [(7, .ref x12), (6, .int x9), (5, .ref x1), (0, .ref v0), (1, .int v1), (2, .int v2), (3, .int v3), (4, .int v4)]) (st' := [.int (v2 - (1 : Int32)), .int (2 : Int32), .ref x18]) rfl ?_
        refine xZ.callv (κ := oU) (av := [.int (2 : Int32), .int (v2 - (1 : Int32))]) (rest := []) (st' := fun _ => []) (k0 := x18) (me := xm128) hP_128 rfl (Or.inl rfl) ⟨rfl, by decide⟩ rfl rfl (Nat.le_of_ble_eq_true rfl) (by decide) hP_33 (Nat.le_of_ble_eq_true rfl) (fun _ => rfl) (k_f_Rule_putEnd O f (d + 6) x18 (2 : Int32) (v2 - (1 : Int32)) M14) (fun _ M15 => ?_)
        refine xZ.adv (me := xm128) hP_128 1 (pc' := 157) (lv' := [(7, .ref x12), (6, .int x9), (5, .ref x1), (0, .ref v0), (1, .int v1), (2, .int v2), (3, .int v3), (4, .int v4)]) (st' := [.ref x1]) rfl ?_
        refine xZ.k_gR (me := xm128) hP_128 rfl (fun x20 => ?_)
        refine xZ.callv (κ := oU) (av := []) (rest := []) (st' := fun _ => []) (k0 := x20) (me := xm128) hP_128 rfl (Or.inl rfl) ⟨rfl, by decide⟩ rfl rfl (Nat.le_of_ble_eq_true rfl) (by decide) hP_43 (Nat.le_of_ble_eq_true rfl) (fun _ => rfl) (k_f_Rule_settle O f (d + 0) x20 M15) (fun _ M16 => ?_)
        refine xZ.adv (me := xm128) hP_128 1 (pc' := 165) (lv' := [(7, .ref x12), (6, .int x9), (5, .ref x1), (0, .ref v0), (1, .int v1), (2, .int v2), (3, .int v3), (4, .int v4)]) (st' := [.int x9]) rfl ?_
        exact xZ.reti (me := xm128) hP_128 rfl rfl
def f_Rule_isRight_96 (O : Nat → Option va_E) (f : Nat) (K16 : Nat → Int32 → Int32 → Int32 → xM → Option (Int32 × xM)) (v0 : Nat) (v1 : Int32) (v2 : Int32) (v3 : Int32) (v4 : Int32) (s0 : Int32) (s1 : Int32) (M : xM) : Option (Int32 × xM) :=
  if s0 = s1 then (
    if v4 = 0 then (
      K16 v0 v1 v2 (v3 + (1 : Int32)) M
    ) else
    (isO O M v0 9).bind fun _ =>
    xcl (f_Rule_next O f v0 (v3 + (1 : Int32)) M) fun x1 M1 =>
    K16 v0 x1 v2 (v3 + (1 : Int32)) M1
  ) else
  some ((0 : Int32), M)
set_option maxRecDepth 20000 in
theorem k_f_Rule_isRight_96 (O : Nat → Option va_E) (f d : Nat) (K16 : Nat → Int32 → Int32 → Int32 → xM → Option (Int32 × xM)) (hK16 : ∀ (v0 : Nat) (v1 : Int32) (v2 : Int32) (v3 : Int32) M, xZ oI O (d + 5) 133 16 [(0, .ref v0), (1, .int v1), (2, .int v2), (3, .int v3)] [] M (K16 v0 v1 v2 v3 M)) (v0 : Nat) (v1 : Int32) (v2 : Int32) (v3 : Int32) (v4 : Int32) (s0 : Int32) (s1 : Int32) (M : xM) : xZ oI O (d + 5) 133 96 [(0, .ref v0), (1, .int v1), (2, .int v2), (3, .int v3), (4, .int v4)] [.int s1, .int s0] M (f_Rule_isRight_96 O f K16 v0 v1 v2 v3 v4 s0 s1 M) := by
  unfold f_Rule_isRight_96
  refine xZ.ic_eq (me := xm133) hP_133 rfl (fun h1 => ?_) (fun h1 => ?_)
  · skip
    refine xZ.adv (me := xm133) hP_133 1 (pc' := 103) (lv' := [(0, .ref v0), (1, .int v1), (2, .int v2), (3, .int v3), (4, .int v4)]) (st' := [.int v4]) rfl ?_
    refine xZ.if_eq (me := xm133) hP_133 rfl (fun h2 => ?_) (fun h2 => ?_)
    · skip
      refine xZ.adv (me := xm133) hP_133 2 (pc' := 16) (lv' := [(3, .int (v3 + (1 : Int32))), (0, .ref v0), (1, .int v1), (2, .int v2), (4, .int v4)]) (st' := []) rfl ?_
      exact xZ.sub (xsc (.tail _ (.head _)) (xsc (.tail _ (.tail _ (.head _))) (xsc (.tail _ (.tail _ (.tail _ (.head _)))) (xsc (.head _) xsn)))) (show ([3, 0, 1, 2, 4] : List Nat).Nodup from by decide) (hK16 v0 v1 v2 (v3 + (1 : Int32)) M)
    · skip
      refine xZ.adv (me := xm133) hP_133 4 (pc' := 110) (lv' := [(0, .ref v0), (1, .int v1), (2, .int v2), (3, .int v3), (4, .int v4)]) (st' := [.int (v3 + (1 : Int32)), .ref v0]) rfl ?_
      refine xZ.callv (κ := oI) (av := [.int (v3 + (1 : Int32))]) (rest := []) (st' := fun x1 => [.int x1]) (k0 := v0) (me := xm133) hP_133 rfl (Or.inl rfl) ⟨rfl, by decide⟩ rfl rfl (Nat.le_of_ble_eq_true rfl) (by decide) hP_45 (Nat.le_of_ble_eq_true rfl) (fun _ => rfl) (k_f_Rule_next O f (d + 0) v0 (v3 + (1 : Int32)) M) (fun x1 M1 => ?_)
      refine xZ.adv (me := xm133) hP_133 3 (pc' := 16) (lv' := [(3, .int (v3 + (1 : Int32))), (1, .int x1), (0, .ref v0), (2, .int v2), (4, .int v4)]) (st' := []) rfl ?_
      exact xZ.sub (xsc (.tail _ (.tail _ (.head _))) (xsc (.tail _ (.head _)) (xsc (.tail _ (.tail _ (.tail _ (.head _)))) (xsc (.head _) xsn)))) (show ([3, 1, 0, 2, 4] : List Nat).Nodup from by decide) (hK16 v0 x1 v2 (v3 + (1 : Int32)) M1)
  · skip
    refine xZ.adv (me := xm133) hP_133 1 (pc' := 100) (lv' := [(0, .ref v0), (1, .int v1), (2, .int v2), (3, .int v3), (4, .int v4)]) (st' := [.int (0 : Int32)]) rfl ?_
    exact xZ.rete (me := xm133) hP_133 rfl rfl rfl
def f_Rule_isRight_84 (O : Nat → Option va_E) (f : Nat) (K16 : Nat → Int32 → Int32 → Int32 → xM → Option (Int32 × xM)) (v0 : Nat) (v1 : Int32) (v2 : Int32) (v3 : Int32) (v4 : Int32) (M : xM) : Option (Int32 × xM) :=
  if v1 = v3 then (
    f_Rule_isRight_96 O f K16 v0 v1 v2 v3 v4 v4 (1 : Int32) M
  ) else
  f_Rule_isRight_96 O f K16 v0 v1 v2 v3 v4 v4 (0 : Int32) M
set_option maxRecDepth 20000 in
theorem k_f_Rule_isRight_84 (O : Nat → Option va_E) (f d : Nat) (K16 : Nat → Int32 → Int32 → Int32 → xM → Option (Int32 × xM)) (hK16 : ∀ (v0 : Nat) (v1 : Int32) (v2 : Int32) (v3 : Int32) M, xZ oI O (d + 5) 133 16 [(0, .ref v0), (1, .int v1), (2, .int v2), (3, .int v3)] [] M (K16 v0 v1 v2 v3 M)) (v0 : Nat) (v1 : Int32) (v2 : Int32) (v3 : Int32) (v4 : Int32) (M : xM) : xZ oI O (d + 5) 133 84 [(0, .ref v0), (1, .int v1), (2, .int v2), (3, .int v3), (4, .int v4)] [] M (f_Rule_isRight_84 O f K16 v0 v1 v2 v3 v4 M) := by
  unfold f_Rule_isRight_84
  refine xZ.adv (me := xm133) hP_133 3 (pc' := 88) (lv' := [(0, .ref v0), (1, .int v1), (2, .int v2), (3, .int v3), (4, .int v4)]) (st' := [.int v3, .int v1, .int v4]) rfl ?_
  refine xZ.ic_ne (me := xm133) hP_133 rfl (fun h1 => ?_) (fun h1 => ?_)
  · skip
    refine xZ.adv (me := xm133) hP_133 2 (pc' := 96) (lv' := [(0, .ref v0), (1, .int v1), (2, .int v2), (3, .int v3), (4, .int v4)]) (st' := [.int (1 : Int32), .int v4]) rfl ?_
    exact (k_f_Rule_isRight_96 O f d K16 hK16 v0 v1 v2 v3 v4 v4 (1 : Int32) M)
  · skip
    refine xZ.adv (me := xm133) hP_133 1 (pc' := 96) (lv' := [(0, .ref v0), (1, .int v1), (2, .int v2), (3, .int v3), (4, .int v4)]) (st' := [.int (0 : Int32), .int v4]) rfl ?_
    exact (k_f_Rule_isRight_96 O f d K16 hK16 v0 v1 v2 v3 v4 v4 (0 : Int32) M)
def f_Rule_isRight_81 (O : Nat → Option va_E) (f : Nat) (K16 : Nat → Int32 → Int32 → Int32 → xM → Option (Int32 × xM)) (v0 : Nat) (v1 : Int32) (v2 : Int32) (v3 : Int32) (M : xM) : Option (Int32 × xM) :=
  f_Rule_isRight_84 O f K16 v0 v1 v2 v3 (0 : Int32) M
set_option maxRecDepth 20000 in
theorem k_f_Rule_isRight_81 (O : Nat → Option va_E) (f d : Nat) (K16 : Nat → Int32 → Int32 → Int32 → xM → Option (Int32 × xM)) (hK16 : ∀ (v0 : Nat) (v1 : Int32) (v2 : Int32) (v3 : Int32) M, xZ oI O (d + 5) 133 16 [(0, .ref v0), (1, .int v1), (2, .int v2), (3, .int v3)] [] M (K16 v0 v1 v2 v3 M)) (v0 : Nat) (v1 : Int32) (v2 : Int32) (v3 : Int32) (M : xM) : xZ oI O (d + 5) 133 81 [(0, .ref v0), (1, .int v1), (2, .int v2), (3, .int v3)] [] M (f_Rule_isRight_81 O f K16 v0 v1 v2 v3 M) := by
  unfold f_Rule_isRight_81
  refine xZ.adv (me := xm133) hP_133 2 (pc' := 84) (lv' := [(4, .int (0 : Int32)), (0, .ref v0), (1, .int v1), (2, .int v2), (3, .int v3)]) (st' := []) rfl ?_
  exact xZ.sub (xsc (.tail _ (.head _)) (xsc (.tail _ (.tail _ (.head _))) (xsc (.tail _ (.tail _ (.tail _ (.head _)))) (xsc (.tail _ (.tail _ (.tail _ (.tail _ (.head _))))) (xsc (.head _) xsn))))) (show ([4, 0, 1, 2, 3] : List Nat).Nodup from by decide) (k_f_Rule_isRight_84 O f d K16 hK16 v0 v1 v2 v3 (0 : Int32) M)
def f_Rule_isRight_65 (O : Nat → Option va_E) (f : Nat) (K16 : Nat → Int32 → Int32 → Int32 → xM → Option (Int32 × xM)) (v0 : Nat) (v1 : Int32) (v2 : Int32) (v3 : Int32) (v4 : Int32) (M : xM) : Option (Int32 × xM) :=
  (gI O M v0 9 5).bind fun x1 =>
  if x1 = (2 : Int32) then (
    (gI O M v0 9 6).bind fun x2 =>
    if v3 ≤ x2 then (
      f_Rule_isRight_84 O f K16 v0 v1 v2 v3 v4 M
    ) else
    f_Rule_isRight_81 O f K16 v0 v1 v2 v3 M
  ) else
  f_Rule_isRight_84 O f K16 v0 v1 v2 v3 v4 M
set_option maxRecDepth 20000 in
theorem k_f_Rule_isRight_65 (O : Nat → Option va_E) (f d : Nat) (K16 : Nat → Int32 → Int32 → Int32 → xM → Option (Int32 × xM)) (hK16 : ∀ (v0 : Nat) (v1 : Int32) (v2 : Int32) (v3 : Int32) M, xZ oI O (d + 5) 133 16 [(0, .ref v0), (1, .int v1), (2, .int v2), (3, .int v3)] [] M (K16 v0 v1 v2 v3 M)) (v0 : Nat) (v1 : Int32) (v2 : Int32) (v3 : Int32) (v4 : Int32) (M : xM) : xZ oI O (d + 5) 133 65 [(0, .ref v0), (1, .int v1), (2, .int v2), (3, .int v3), (4, .int v4)] [] M (f_Rule_isRight_65 O f K16 v0 v1 v2 v3 v4 M) := by
  unfold f_Rule_isRight_65
  refine xZ.adv (me := xm133) hP_133 1 (pc' := 66) (lv' := [(0, .ref v0), (1, .int v1), (2, .int v2), (3, .int v3), (4, .int v4)]) (st' := [.ref v0]) rfl ?_
  refine xZ.k_gI (me := xm133) hP_133 rfl (fun x1 => ?_)
  refine xZ.adv (me := xm133) hP_133 1 (pc' := 70) (lv' := [(0, .ref v0), (1, .int v1), (2, .int v2), (3, .int v3), (4, .int v4)]) (st' := [.int (2 : Int32), .int x1]) rfl ?_
  refine xZ.ic_ne (me := xm133) hP_133 rfl (fun h1 => ?_) (fun h1 => ?_)
  · skip
    refine xZ.adv (me := xm133) hP_133 2 (pc' := 75) (lv' := [(0, .ref v0), (1, .int v1), (2, .int v2), (3, .int v3), (4, .int v4)]) (st' := [.ref v0, .int v3]) rfl ?_
    refine xZ.k_gI (me := xm133) hP_133 rfl (fun x2 => ?_)
    refine xZ.ic_le (me := xm133) hP_133 rfl (fun h2 => ?_) (fun h2 => ?_)
    · skip
      exact (k_f_Rule_isRight_84 O f d K16 hK16 v0 v1 v2 v3 v4 M)
    · skip
      exact xZ.sub (xsc (.head _) (xsc (.tail _ (.head _)) (xsc (.tail _ (.tail _ (.head _))) (xsc (.tail _ (.tail _ (.tail _ (.head _)))) xsn)))) (show ([0, 1, 2, 3, 4] : List Nat).Nodup from by decide) (k_f_Rule_isRight_81 O f d K16 hK16 v0 v1 v2 v3 M)
  · skip
    exact (k_f_Rule_isRight_84 O f d K16 hK16 v0 v1 v2 v3 v4 M)
def f_Rule_isRight_49 (O : Nat → Option va_E) (f : Nat) (K16 : Nat → Int32 → Int32 → Int32 → xM → Option (Int32 × xM)) (v0 : Nat) (v1 : Int32) (v2 : Int32) (v3 : Int32) (v4 : Int32) (M : xM) : Option (Int32 × xM) :=
  (gI O M v0 9 5).bind fun x1 =>
  if x1 = (1 : Int32) then (
    (gI O M v0 9 6).bind fun x2 =>
    if x2 < v2 then (
      f_Rule_isRight_81 O f K16 v0 v1 v2 v3 M
    ) else
    f_Rule_isRight_65 O f K16 v0 v1 v2 v3 v4 M
  ) else
  f_Rule_isRight_65 O f K16 v0 v1 v2 v3 v4 M
set_option maxRecDepth 20000 in
theorem k_f_Rule_isRight_49 (O : Nat → Option va_E) (f d : Nat) (K16 : Nat → Int32 → Int32 → Int32 → xM → Option (Int32 × xM)) (hK16 : ∀ (v0 : Nat) (v1 : Int32) (v2 : Int32) (v3 : Int32) M, xZ oI O (d + 5) 133 16 [(0, .ref v0), (1, .int v1), (2, .int v2), (3, .int v3)] [] M (K16 v0 v1 v2 v3 M)) (v0 : Nat) (v1 : Int32) (v2 : Int32) (v3 : Int32) (v4 : Int32) (M : xM) : xZ oI O (d + 5) 133 49 [(0, .ref v0), (1, .int v1), (2, .int v2), (3, .int v3), (4, .int v4)] [] M (f_Rule_isRight_49 O f K16 v0 v1 v2 v3 v4 M) := by
  unfold f_Rule_isRight_49
  refine xZ.adv (me := xm133) hP_133 1 (pc' := 50) (lv' := [(0, .ref v0), (1, .int v1), (2, .int v2), (3, .int v3), (4, .int v4)]) (st' := [.ref v0]) rfl ?_
  refine xZ.k_gI (me := xm133) hP_133 rfl (fun x1 => ?_)
  refine xZ.adv (me := xm133) hP_133 1 (pc' := 54) (lv' := [(0, .ref v0), (1, .int v1), (2, .int v2), (3, .int v3), (4, .int v4)]) (st' := [.int (1 : Int32), .int x1]) rfl ?_
  refine xZ.ic_ne (me := xm133) hP_133 rfl (fun h1 => ?_) (fun h1 => ?_)
  · skip
    refine xZ.adv (me := xm133) hP_133 2 (pc' := 59) (lv' := [(0, .ref v0), (1, .int v1), (2, .int v2), (3, .int v3), (4, .int v4)]) (st' := [.ref v0, .int v2]) rfl ?_
    refine xZ.k_gI (me := xm133) hP_133 rfl (fun x2 => ?_)
    refine xZ.ic_gt (me := xm133) hP_133 rfl (fun h2 => ?_) (fun h2 => ?_)
    · skip
      exact xZ.sub (xsc (.head _) (xsc (.tail _ (.head _)) (xsc (.tail _ (.tail _ (.head _))) (xsc (.tail _ (.tail _ (.tail _ (.head _)))) xsn)))) (show ([0, 1, 2, 3, 4] : List Nat).Nodup from by decide) (k_f_Rule_isRight_81 O f d K16 hK16 v0 v1 v2 v3 M)
    · skip
      exact (k_f_Rule_isRight_65 O f d K16 hK16 v0 v1 v2 v3 v4 M)
  · skip
    exact (k_f_Rule_isRight_65 O f d K16 hK16 v0 v1 v2 v3 v4 M)
def f_Rule_isRight_16 (O : Nat → Option va_E) (f : Nat) : Nat → Nat → Int32 → Int32 → Int32 → xM → Option (Int32 × xM)
  | 0, _, _, _, _, _ => none
  | n + 1, v0, v1, v2, v3, M =>
    if (146000 : Int32) < v3 then (
      some ((1 : Int32), M)
    ) else
    (gI O M v0 9 0).bind fun x1 =>
    if (x1 + (800 : Int32)) ≤ v3 then (
      some ((1 : Int32), M)
    ) else
    (isO O M v0 9).bind fun _ =>
    xcl (f_Rule_holds O f v0 v3 M) fun x2 M1 =>
    if x2 = 0 then (
      f_Rule_isRight_49 O f (f_Rule_isRight_16 O f n) v0 v1 v2 v3 x2 M1
    ) else
    f_Rule_isRight_49 O f (f_Rule_isRight_16 O f n) v0 v1 (v2 + (1 : Int32)) v3 x2 M1
set_option maxRecDepth 20000 in
theorem k_f_Rule_isRight_16 (O : Nat → Option va_E) (f d : Nat) : ∀ (n : Nat) (v0 : Nat) (v1 : Int32) (v2 : Int32) (v3 : Int32) (M : xM), xZ oI O (d + 5) 133 16 [(0, .ref v0), (1, .int v1), (2, .int v2), (3, .int v3)] [] M (f_Rule_isRight_16 O f n v0 v1 v2 v3 M) := by
  intro n
  induction n with
  | zero =>
    intro v0 v1 v2 v3 M
    exact xZ.no
  | succ n ih =>
    intro v0 v1 v2 v3 M
    unfold f_Rule_isRight_16
    refine xZ.adv (me := xm133) hP_133 2 (pc' := 19) (lv' := [(0, .ref v0), (1, .int v1), (2, .int v2), (3, .int v3)]) (st' := [.int (146000 : Int32), .int v3]) rfl ?_
    refine xZ.ic_gt (me := xm133) hP_133 rfl (fun h1 => ?_) (fun h1 => ?_)
    · skip
      refine xZ.adv (me := xm133) hP_133 1 (pc' := 121) (lv' := [(0, .ref v0), (1, .int v1), (2, .int v2), (3, .int v3)]) (st' := [.int (1 : Int32)]) rfl ?_
      exact xZ.rete (me := xm133) hP_133 rfl rfl rfl
    · skip
      refine xZ.adv (me := xm133) hP_133 2 (pc' := 24) (lv' := [(0, .ref v0), (1, .int v1), (2, .int v2), (3, .int v3)]) (st' := [.ref v0, .int v3]) rfl ?_
      refine xZ.k_gI (me := xm133) hP_133 rfl (fun x1 => ?_)
      refine xZ.adv (me := xm133) hP_133 2 (pc' := 31) (lv' := [(0, .ref v0), (1, .int v1), (2, .int v2), (3, .int v3)]) (st' := [.int (x1 + (800 : Int32)), .int v3]) rfl ?_
      refine xZ.ic_ge (me := xm133) hP_133 rfl (fun h2 => ?_) (fun h2 => ?_)
      · skip
        refine xZ.adv (me := xm133) hP_133 1 (pc' := 121) (lv' := [(0, .ref v0), (1, .int v1), (2, .int v2), (3, .int v3)]) (st' := [.int (1 : Int32)]) rfl ?_
        exact xZ.rete (me := xm133) hP_133 rfl rfl rfl
      · skip
        refine xZ.adv (me := xm133) hP_133 2 (pc' := 36) (lv' := [(0, .ref v0), (1, .int v1), (2, .int v2), (3, .int v3)]) (st' := [.int v3, .ref v0]) rfl ?_
        refine xZ.callv (κ := oI) (av := [.int v3]) (rest := []) (st' := fun x2 => [.int x2]) (k0 := v0) (me := xm133) hP_133 rfl (Or.inl rfl) ⟨rfl, by decide⟩ rfl rfl (Nat.le_of_ble_eq_true rfl) (by decide) hP_100 (Nat.le_of_ble_eq_true rfl) (fun _ => rfl) (k_f_Rule_holds O f (d + 2) v0 v3 M) (fun x2 M1 => ?_)
        refine xZ.adv (me := xm133) hP_133 2 (pc' := 43) (lv' := [(4, .int x2), (0, .ref v0), (1, .int v1), (2, .int v2), (3, .int v3)]) (st' := [.int x2]) rfl ?_
        refine xZ.if_eq (me := xm133) hP_133 rfl (fun h3 => ?_) (fun h3 => ?_)
        · skip
          exact xZ.sub (xsc (.tail _ (.head _)) (xsc (.tail _ (.tail _ (.head _))) (xsc (.tail _ (.tail _ (.tail _ (.head _)))) (xsc (.tail _ (.tail _ (.tail _ (.tail _ (.head _))))) (xsc (.head _) xsn))))) (show ([4, 0, 1, 2, 3] : List Nat).Nodup from by decide) (k_f_Rule_isRight_49 O f d (f_Rule_isRight_16 O f n) ih v0 v1 v2 v3 x2 M1)
        · skip
          refine xZ.adv (me := xm133) hP_133 1 (pc' := 49) (lv' := [(2, .int (v2 + (1 : Int32))), (4, .int x2), (0, .ref v0), (1, .int v1), (3, .int v3)]) (st' := []) rfl ?_
          exact xZ.sub (xsc (.tail _ (.tail _ (.head _))) (xsc (.tail _ (.tail _ (.tail _ (.head _)))) (xsc (.head _) (xsc (.tail _ (.tail _ (.tail _ (.tail _ (.head _))))) (xsc (.tail _ (.head _)) xsn))))) (show ([2, 4, 0, 1, 3] : List Nat).Nodup from by decide) (k_f_Rule_isRight_49 O f d (f_Rule_isRight_16 O f n) ih v0 v1 (v2 + (1 : Int32)) v3 x2 M1)
def f_Rule_isRight (O : Nat → Option va_E) (f : Nat) (v0 : Nat) (M : xM) : Option (Int32 × xM) :=
  (gI O M v0 9 0).bind fun x1 =>
  (isO O M v0 9).bind fun _ =>
  xcl (f_Rule_next O f v0 x1 M) fun x2 M1 =>
  (gI O M1 v0 9 0).bind fun x3 =>
  f_Rule_isRight_16 O f f v0 x2 (0 : Int32) x3 M1
set_option maxRecDepth 20000 in
theorem k_f_Rule_isRight (O : Nat → Option va_E) (f d : Nat) (v0 : Nat) (M : xM) : xZ oI O (d + 5) 133 0 [(0, .ref v0)] [] M (f_Rule_isRight O f v0 M) := by
  unfold f_Rule_isRight
  refine xZ.adv (me := xm133) hP_133 2 (pc' := 2) (lv' := [(0, .ref v0)]) (st' := [.ref v0, .ref v0]) rfl ?_
  refine xZ.k_gI (me := xm133) hP_133 rfl (fun x1 => ?_)
  refine xZ.callv (κ := oI) (av := [.int x1]) (rest := []) (st' := fun x2 => [.int x2]) (k0 := v0) (me := xm133) hP_133 rfl (Or.inl rfl) ⟨rfl, by decide⟩ rfl rfl (Nat.le_of_ble_eq_true rfl) (by decide) hP_45 (Nat.le_of_ble_eq_true rfl) (fun _ => rfl) (k_f_Rule_next O f (d + 0) v0 x1 M) (fun x2 M1 => ?_)
  refine xZ.adv (me := xm133) hP_133 4 (pc' := 12) (lv' := [(2, .int (0 : Int32)), (1, .int x2), (0, .ref v0)]) (st' := [.ref v0]) rfl ?_
  refine xZ.k_gI (me := xm133) hP_133 rfl (fun x3 => ?_)
  refine xZ.adv (me := xm133) hP_133 1 (pc' := 16) (lv' := [(3, .int x3), (2, .int (0 : Int32)), (1, .int x2), (0, .ref v0)]) (st' := []) rfl ?_
  exact xZ.sub (xsc (.tail _ (.tail _ (.tail _ (.head _)))) (xsc (.tail _ (.tail _ (.head _))) (xsc (.tail _ (.head _)) (xsc (.head _) xsn)))) (show ([3, 2, 1, 0] : List Nat).Nodup from by decide) (k_f_Rule_isRight_16 O f d f v0 x2 (0 : Int32) x3 M1)
