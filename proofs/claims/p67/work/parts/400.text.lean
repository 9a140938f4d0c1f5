/-! ===== texts ===== -/
def f_Zone_ctor (O : Nat → Option va_E) (f : Nat) (v0 : Nat) (M : xM) : Option (Unit × xM) :=
  xcl (nA M 0 (4 : Int32)) fun x1 M1 =>
  (wI M1 x1 (0 : Int32) (3 : Int32)).bind fun M2 =>
  (wI M2 x1 (1 : Int32) (5 : Int32)).bind fun M3 =>
  (wI M3 x1 (2 : Int32) (6 : Int32)).bind fun M4 =>
  (wI M4 x1 (3 : Int32) (120 : Int32)).bind fun M5 =>
  (pR M5 v0 11 2 (some x1)).bind fun M6 =>
  xcl (nA M6 0 (4 : Int32)) fun x2 M7 =>
  (wI M7 x2 (0 : Int32) (10 : Int32)).bind fun M8 =>
  (wI M8 x2 (1 : Int32) (5 : Int32)).bind fun M9 =>
  (wI M9 x2 (2 : Int32) (6 : Int32)).bind fun M10 =>
  (wI M10 x2 (3 : Int32) (120 : Int32)).bind fun M11 =>
  (pR M11 v0 11 3 (some x2)).bind fun M12 =>
  some ((), M12)
set_option maxRecDepth 20000 in
theorem k_f_Zone_ctor (O : Nat → Option va_E) (f d : Nat) (v0 : Nat) (M : xM) : xZ oU O (d + 0) 2 0 [(0, .ref v0)] [] M (f_Zone_ctor O f v0 M) := by
  unfold f_Zone_ctor
  refine xZ.adv (me := xm2) hP_2 1 (pc' := 1) (lv' := [(0, .ref v0)]) (st' := [.ref v0]) rfl ?_
  refine xZ.obj (me := xm2) hP_2 rfl (Nat.le_of_ble_eq_true rfl) ?_
  refine xZ.adv (me := xm2) hP_2 2 (pc' := 6) (lv' := [(0, .ref v0)]) (st' := [.int (4 : Int32), .ref v0]) rfl ?_
  refine xZ.k_nA (me := xm2) hP_2 rfl rfl (by decide) (fun x1 M1 => ?_)
  refine xZ.adv (me := xm2) hP_2 3 (pc' := 11) (lv' := [(0, .ref v0)]) (st' := [.int (3 : Int32), .int (0 : Int32), .ref x1, .ref x1, .ref v0]) rfl ?_
  refine xZ.k_wI (me := xm2) hP_2 rfl (fun M2 => ?_)
  refine xZ.adv (me := xm2) hP_2 3 (pc' := 15) (lv' := [(0, .ref v0)]) (st' := [.int (5 : Int32), .int (1 : Int32), .ref x1, .ref x1, .ref v0]) rfl ?_
  refine xZ.k_wI (me := xm2) hP_2 rfl (fun M3 => ?_)
  refine xZ.adv (me := xm2) hP_2 3 (pc' := 20) (lv' := [(0, .ref v0)]) (st' := [.int (6 : Int32), .int (2 : Int32), .ref x1, .ref x1, .ref v0]) rfl ?_
  refine xZ.k_wI (me := xm2) hP_2 rfl (fun M4 => ?_)
  refine xZ.adv (me := xm2) hP_2 3 (pc' := 25) (lv' := [(0, .ref v0)]) (st' := [.int (120 : Int32), .int (3 : Int32), .ref x1, .ref x1, .ref v0]) rfl ?_
  refine xZ.k_wI (me := xm2) hP_2 rfl (fun M5 => ?_)
  refine xZ.k_pR (x := (some x1)) (me := xm2) hP_2 rfl (fun M6 => ?_)
  refine xZ.adv (me := xm2) hP_2 2 (pc' := 31) (lv' := [(0, .ref v0)]) (st' := [.int (4 : Int32), .ref v0]) rfl ?_
  refine xZ.k_nA (me := xm2) hP_2 rfl rfl (by decide) (fun x2 M7 => ?_)
  refine xZ.adv (me := xm2) hP_2 3 (pc' := 37) (lv' := [(0, .ref v0)]) (st' := [.int (10 : Int32), .int (0 : Int32), .ref x2, .ref x2, .ref v0]) rfl ?_
  refine xZ.k_wI (me := xm2) hP_2 rfl (fun M8 => ?_)
  refine xZ.adv (me := xm2) hP_2 3 (pc' := 41) (lv' := [(0, .ref v0)]) (st' := [.int (5 : Int32), .int (1 : Int32), .ref x2, .ref x2, .ref v0]) rfl ?_
  refine xZ.k_wI (me := xm2) hP_2 rfl (fun M9 => ?_)
  refine xZ.adv (me := xm2) hP_2 3 (pc' := 46) (lv' := [(0, .ref v0)]) (st' := [.int (6 : Int32), .int (2 : Int32), .ref x2, .ref x2, .ref v0]) rfl ?_
  refine xZ.k_wI (me := xm2) hP_2 rfl (fun M10 => ?_)
  refine xZ.adv (me := xm2) hP_2 3 (pc' := 51) (lv' := [(0, .ref v0)]) (st' := [.int (120 : Int32), .int (3 : Int32), .ref x2, .ref x2, .ref v0]) rfl ?_
  refine xZ.k_wI (me := xm2) hP_2 rfl (fun M11 => ?_)
  refine xZ.k_pR (x := (some x2)) (me := xm2) hP_2 rfl (fun M12 => ?_)
  exact xZ.retu (me := xm2) hP_2 rfl rfl
def f_Person_ctor (O : Nat → Option va_E) (f : Nat) (v0 : Nat) (M : xM) : Option (Unit × xM) :=
  (pI M v0 6 1 (31 : Int32)).bind fun M1 =>
  (pI M1 v0 6 2 (540 : Int32)).bind fun M2 =>
  (pI M2 v0 6 3 (1020 : Int32)).bind fun M3 =>
  some ((), M3)
set_option maxRecDepth 20000 in
theorem k_f_Person_ctor (O : Nat → Option va_E) (f d : Nat) (v0 : Nat) (M : xM) : xZ oU O (d + 0) 3 0 [(0, .ref v0)] [] M (f_Person_ctor O f v0 M) := by
  unfold f_Person_ctor
  refine xZ.adv (me := xm3) hP_3 1 (pc' := 1) (lv' := [(0, .ref v0)]) (st' := [.ref v0]) rfl ?_
  refine xZ.obj (me := xm3) hP_3 rfl (Nat.le_of_ble_eq_true rfl) ?_
  refine xZ.adv (me := xm3) hP_3 2 (pc' := 7) (lv' := [(0, .ref v0)]) (st' := [.int (31 : Int32), .ref v0]) rfl ?_
  refine xZ.k_pI (me := xm3) hP_3 rfl (fun M1 => ?_)
  refine xZ.adv (me := xm3) hP_3 2 (pc' := 14) (lv' := [(0, .ref v0)]) (st' := [.int (540 : Int32), .ref v0]) rfl ?_
  refine xZ.k_pI (me := xm3) hP_3 rfl (fun M2 => ?_)
  refine xZ.adv (me := xm3) hP_3 2 (pc' := 21) (lv' := [(0, .ref v0)]) (st' := [.int (1020 : Int32), .ref v0]) rfl ?_
  refine xZ.k_pI (me := xm3) hP_3 rfl (fun M3 => ?_)
  exact xZ.retu (me := xm3) hP_3 rfl rfl
def f_Rule_ctor (O : Nat → Option va_E) (f : Nat) (v0 : Nat) (M : xM) : Option (Unit × xM) :=
  (pI M v0 9 0 (10 : Int32)).bind fun M1 =>
  (pI M1 v0 9 7 (146000 : Int32)).bind fun M2 =>
  some ((), M2)
set_option maxRecDepth 20000 in
theorem k_f_Rule_ctor (O : Nat → Option va_E) (f d : Nat) (v0 : Nat) (M : xM) : xZ oU O (d + 0) 5 0 [(0, .ref v0)] [] M (f_Rule_ctor O f v0 M) := by
  unfold f_Rule_ctor
  refine xZ.adv (me := xm5) hP_5 1 (pc' := 1) (lv' := [(0, .ref v0)]) (st' := [.ref v0]) rfl ?_
  refine xZ.obj (me := xm5) hP_5 rfl (Nat.le_of_ble_eq_true rfl) ?_
  refine xZ.adv (me := xm5) hP_5 2 (pc' := 7) (lv' := [(0, .ref v0)]) (st' := [.int (10 : Int32), .ref v0]) rfl ?_
  refine xZ.k_pI (me := xm5) hP_5 rfl (fun M1 => ?_)
  refine xZ.adv (me := xm5) hP_5 2 (pc' := 13) (lv' := [(0, .ref v0)]) (st' := [.int (146000 : Int32), .ref v0]) rfl ?_
  refine xZ.k_pI (me := xm5) hP_5 rfl (fun M2 => ?_)
  exact xZ.retu (me := xm5) hP_5 rfl rfl
def f_Series_ctor (O : Nat → Option va_E) (f : Nat) (v0 : Nat) (M : xM) : Option (Unit × xM) :=
  xcl (nO M 9) fun x1 M1 =>
  xcl (f_Rule_ctor O f x1 M1) fun _ M2 =>
  (pR M2 v0 10 6 (some x1)).bind fun M3 =>
  xcl (nA M3 0 (10 : Int32)) fun x3 M4 =>
  (pR M4 v0 10 8 (some x3)).bind fun M5 =>
  xcl (nA M5 0 (10 : Int32)) fun x4 M6 =>
  (pR M6 v0 10 9 (some x4)).bind fun M7 =>
  xcl (nA M7 0 (8 : Int32)) fun x5 M8 =>
  (pR M8 v0 10 10 (some x5)).bind fun M9 =>
  xcl (nA M9 0 (8 : Int32)) fun x6 M10 =>
  (pR M10 v0 10 11 (some x6)).bind fun M11 =>
  some ((), M11)
set_option maxRecDepth 20000 in
theorem k_f_Series_ctor (O : Nat → Option va_E) (f d : Nat) (v0 : Nat) (M : xM) : xZ oU O (d + 1) 4 0 [(0, .ref v0)] [] M (f_Series_ctor O f v0 M) := by
  unfold f_Series_ctor
  refine xZ.adv (me := xm4) hP_4 1 (pc' := 1) (lv' := [(0, .ref v0)]) (st' := [.ref v0]) rfl ?_
  refine xZ.obj (me := xm4) hP_4 rfl (Nat.le_of_ble_eq_true rfl) ?_
  refine xZ.adv (me := xm4) hP_4 1 (pc' := 5) (lv' := [(0, .ref v0)]) (st' := [.ref v0]) rfl ?_
  refine xZ.k_nO (me := xm4) hP_4 rfl rfl (fun x1 M1 => ?_)
  refine xZ.adv (me := xm4) hP_4 1 (pc' := 9) (lv' := [(0, .ref v0)]) (st' := [.ref x1, .ref x1, .ref v0]) rfl ?_
  refine xZ.calli (κ := oU) (av := []) (rest := [.ref x1, .ref v0]) (st' := fun _ => [.ref x1, .ref v0]) (k0 := x1) (me := xm4) hP_4 rfl (Or.inl rfl) rfl rfl (Nat.le_of_ble_eq_true rfl) (by decide) hP_5 (Nat.le_of_ble_eq_true rfl) (fun _ => rfl) (k_f_Rule_ctor O f (d + 0) x1 M1) (fun _ M2 => ?_)
  refine xZ.k_pR (x := (some x1)) (me := xm4) hP_4 rfl (fun M3 => ?_)
  refine xZ.adv (me := xm4) hP_4 2 (pc' := 18) (lv' := [(0, .ref v0)]) (st' := [.int (10 : Int32), .ref v0]) rfl ?_
  refine xZ.k_nA (me := xm4) hP_4 rfl rfl (by decide) (fun x3 M4 => ?_)
  refine xZ.k_pR (x := (some x3)) (me := xm4) hP_4 rfl (fun M5 => ?_)
  refine xZ.adv (me := xm4) hP_4 2 (pc' := 26) (lv' := [(0, .ref v0)]) (st' := [.int (10 : Int32), .ref v0]) rfl ?_
  refine xZ.k_nA (me := xm4) hP_4 rfl rfl (by decide) (fun x4 M6 => ?_)
  refine xZ.k_pR (x := (some x4)) (me := xm4) hP_4 rfl (fun M7 => ?_)
  refine xZ.adv (me := xm4) hP_4 2 (pc' := 34) (lv' := [(0, .ref v0)]) (st' := [.int (8 : Int32), .ref v0]) rfl ?_
  refine xZ.k_nA (me := xm4) hP_4 rfl rfl (by decide) (fun x5 M8 => ?_)
  refine xZ.k_pR (x := (some x5)) (me := xm4) hP_4 rfl (fun M9 => ?_)
  refine xZ.adv (me := xm4) hP_4 2 (pc' := 42) (lv' := [(0, .ref v0)]) (st' := [.int (8 : Int32), .ref v0]) rfl ?_
  refine xZ.k_nA (me := xm4) hP_4 rfl rfl (by decide) (fun x6 M10 => ?_)
  refine xZ.k_pR (x := (some x6)) (me := xm4) hP_4 rfl (fun M11 => ?_)
  exact xZ.retu (me := xm4) hP_4 rfl rfl
def f_Device_ctor_54 (O : Nat → Option va_E) (f : Nat) : Nat → Nat → Int32 → xM → Option (Unit × xM)
  | 0, _, _, _ => none
  | n + 1, v0, v1, M =>
    (gR O M v0 3 5).bind fun x1 =>
    (aN O M x1).bind fun x2 =>
    if x2 ≤ v1 then (
      some ((), M)
    ) else
    (gR O M v0 3 5).bind fun x3 =>
    (wI M x3 v1 (-1 : Int32)).bind fun M1 =>
    f_Device_ctor_54 O f n v0 (v1 + (1 : Int32)) M1
set_option maxRecDepth 20000 in
theorem k_f_Device_ctor_54 (O : Nat → Option va_E) (f d : Nat) : ∀ (n : Nat) (v0 : Nat) (v1 : Int32) (M : xM), xZ oU O (d + 0) 6 54 [(0, .ref v0), (1, .int v1)] [] M (f_Device_ctor_54 O f n v0 v1 M) := by
  intro n
  induction n with
  | zero =>
    intro v0 v1 M
    exact xZ.no
  | succ n ih =>
    intro v0 v1 M
    unfold f_Device_ctor_54
    refine xZ.adv (me := xm6) hP_6 2 (pc' := 56) (lv' := [(0, .ref v0), (1, .int v1)]) (st' := [.ref v0, .int v1]) rfl ?_
    refine xZ.k_gR (me := xm6) hP_6 rfl (fun x1 => ?_)
    refine xZ.k_aN (me := xm6) hP_6 rfl (fun x2 => ?_)
    refine xZ.ic_ge (me := xm6) hP_6 rfl (fun h1 => ?_) (fun h1 => ?_)
    · skip
      exact xZ.retu (me := xm6) hP_6 rfl rfl
    · skip
      refine xZ.adv (me := xm6) hP_6 1 (pc' := 64) (lv' := [(0, .ref v0), (1, .int v1)]) (st' := [.ref v0]) rfl ?_
      refine xZ.k_gR (me := xm6) hP_6 rfl (fun x3 => ?_)
      refine xZ.adv (me := xm6) hP_6 2 (pc' := 69) (lv' := [(0, .ref v0), (1, .int v1)]) (st' := [.int (-1 : Int32), .int v1, .ref x3]) rfl ?_
      refine xZ.k_wI (me := xm6) hP_6 rfl (fun M1 => ?_)
      refine xZ.adv (me := xm6) hP_6 2 (pc' := 54) (lv' := [(1, .int (v1 + (1 : Int32))), (0, .ref v0)]) (st' := []) rfl ?_
      exact xZ.sub (xsc (.tail _ (.head _)) (xsc (.head _) xsn)) (show ([1, 0] : List Nat).Nodup from by decide) (ih v0 (v1 + (1 : Int32)) M1)
def f_Device_ctor (O : Nat → Option va_E) (f : Nat) (v0 : Nat) (M : xM) : Option (Unit × xM) :=
  xcl (nA M 0 (40 : Int32)) fun x1 M1 =>
  (pR M1 v0 3 2 (some x1)).bind fun M2 =>
  xcl (nA M2 0 (40 : Int32)) fun x2 M3 =>
  (pR M3 v0 3 3 (some x2)).bind fun M4 =>
  xcl (nA M4 0 (40 : Int32)) fun x3 M5 =>
  (pR M5 v0 3 4 (some x3)).bind fun M6 =>
  xcl (nA M6 0 (48 : Int32)) fun x4 M7 =>
  (pR M7 v0 3 5 (some x4)).bind fun M8 =>
  xcl (nA M8 0 (48 : Int32)) fun x5 M9 =>
  (pR M9 v0 3 6 (some x5)).bind fun M10 =>
  xcl (nA M10 0 (48 : Int32)) fun x6 M11 =>
  (pR M11 v0 3 7 (some x6)).bind fun M12 =>
  f_Device_ctor_54 O f f v0 (0 : Int32) M12
set_option maxRecDepth 20000 in
theorem k_f_Device_ctor (O : Nat → Option va_E) (f d : Nat) (v0 : Nat) (M : xM) : xZ oU O (d + 0) 6 0 [(0, .ref v0)] [] M (f_Device_ctor O f v0 M) := by
  unfold f_Device_ctor
  refine xZ.adv (me := xm6) hP_6 1 (pc' := 1) (lv' := [(0, .ref v0)]) (st' := [.ref v0]) rfl ?_
  refine xZ.obj (me := xm6) hP_6 rfl (Nat.le_of_ble_eq_true rfl) ?_
  refine xZ.adv (me := xm6) hP_6 2 (pc' := 7) (lv' := [(0, .ref v0)]) (st' := [.int (40 : Int32), .ref v0]) rfl ?_
  refine xZ.k_nA (me := xm6) hP_6 rfl rfl (by decide) (fun x1 M1 => ?_)
  refine xZ.k_pR (x := (some x1)) (me := xm6) hP_6 rfl (fun M2 => ?_)
  refine xZ.adv (me := xm6) hP_6 2 (pc' := 15) (lv' := [(0, .ref v0)]) (st' := [.int (40 : Int32), .ref v0]) rfl ?_
  refine xZ.k_nA (me := xm6) hP_6 rfl rfl (by decide) (fun x2 M3 => ?_)
  refine xZ.k_pR (x := (some x2)) (me := xm6) hP_6 rfl (fun M4 => ?_)
  refine xZ.adv (me := xm6) hP_6 2 (pc' := 23) (lv' := [(0, .ref v0)]) (st' := [.int (40 : Int32), .ref v0]) rfl ?_
  refine xZ.k_nA (me := xm6) hP_6 rfl rfl (by decide) (fun x3 M5 => ?_)
  refine xZ.k_pR (x := (some x3)) (me := xm6) hP_6 rfl (fun M6 => ?_)
  refine xZ.adv (me := xm6) hP_6 2 (pc' := 31) (lv' := [(0, .ref v0)]) (st' := [.int (48 : Int32), .ref v0]) rfl ?_
  refine xZ.k_nA (me := xm6) hP_6 rfl rfl (by decide) (fun x4 M7 => ?_)
  refine xZ.k_pR (x := (some x4)) (me := xm6) hP_6 rfl (fun M8 => ?_)
  refine xZ.adv (me := xm6) hP_6 2 (pc' := 39) (lv' := [(0, .ref v0)]) (st' := [.int (48 : Int32), .ref v0]) rfl ?_
  refine xZ.k_nA (me := xm6) hP_6 rfl rfl (by decide) (fun x5 M9 => ?_)
  refine xZ.k_pR (x := (some x5)) (me := xm6) hP_6 rfl (fun M10 => ?_)
  refine xZ.adv (me := xm6) hP_6 2 (pc' := 47) (lv' := [(0, .ref v0)]) (st' := [.int (48 : Int32), .ref v0]) rfl ?_
  refine xZ.k_nA (me := xm6) hP_6 rfl rfl (by decide) (fun x6 M11 => ?_)
  refine xZ.k_pR (x := (some x6)) (me := xm6) hP_6 rfl (fun M12 => ?_)
  refine xZ.adv (me := xm6) hP_6 2 (pc' := 54) (lv' := [(1, .int (0 : Int32)), (0, .ref v0)]) (st' := []) rfl ?_
  exact xZ.sub (xsc (.tail _ (.head _)) (xsc (.head _) xsn)) (show ([1, 0] : List Nat).Nodup from by decide) (k_f_Device_ctor_54 O f d f v0 (0 : Int32) M12)
def f_Hall_ctor_222 (O : Nat → Option va_E) (f : Nat) : Nat → Nat → Int32 → xM → Option (Unit × xM)
  | 0, _, _, _ => none
  | n + 1, v0, v1, M =>
    (gR O M v0 4 6).bind fun x1 =>
    (aN O M x1).bind fun x2 =>
    if x2 ≤ v1 then (
      some ((), M)
    ) else
    (gR O M v0 4 6).bind fun x3 =>
    (wI M x3 v1 (-1 : Int32)).bind fun M1 =>
    f_Hall_ctor_222 O f n v0 (v1 + (1 : Int32)) M1
set_option maxRecDepth 20000 in
theorem k_f_Hall_ctor_222 (O : Nat → Option va_E) (f d : Nat) : ∀ (n : Nat) (v0 : Nat) (v1 : Int32) (M : xM), xZ oU O (d + 2) 1 222 [(0, .ref v0), (1, .int v1)] [] M (f_Hall_ctor_222 O f n v0 v1 M) := by
  intro n
  induction n with
  | zero =>
    intro v0 v1 M
    exact xZ.no
  | succ n ih =>
    intro v0 v1 M
    unfold f_Hall_ctor_222
    refine xZ.adv (me := xm1) hP_1 2 (pc' := 224) (lv' := [(0, .ref v0), (1, .int v1)]) (st' := [.ref v0, .int v1]) rfl ?_
    refine xZ.k_gR (me := xm1) hP_1 rfl (fun x1 => ?_)
    refine xZ.k_aN (me := xm1) hP_1 rfl (fun x2 => ?_)
    refine xZ.ic_ge (me := xm1) hP_1 rfl (fun h1 => ?_) (fun h1 => ?_)
    · skip
      exact xZ.retu (me := xm1) hP_1 rfl rfl
    · skip
      refine xZ.adv (me := xm1) hP_1 1 (pc' := 232) (lv' := [(0, .ref v0), (1, .int v1)]) (st' := [.ref v0]) rfl ?_
      refine xZ.k_gR (me := xm1) hP_1 rfl (fun x3 => ?_)
      refine xZ.adv (me := xm1) hP_1 2 (pc' := 237) (lv' := [(0, .ref v0), (1, .int v1)]) (st' := [.int (-1 : Int32), .int v1, .ref x3]) rfl ?_
      refine xZ.k_wI (me := xm1) hP_1 rfl (fun M1 => ?_)
      refine xZ.adv (me := xm1) hP_1 2 (pc' := 222) (lv' := [(1, .int (v1 + (1 : Int32))), (0, .ref v0)]) (st' := []) rfl ?_
      exact xZ.sub (xsc (.tail _ (.head _)) (xsc (.head _) xsn)) (show ([1, 0] : List Nat).Nodup from by decide) (ih v0 (v1 + (1 : Int32)) M1)
def f_Hall_ctor_192 (O : Nat → Option va_E) (f : Nat) : Nat → Nat → Int32 → xM → Option (Unit × xM)
  | 0, _, _, _ => none
  | n + 1, v0, v1, M =>
    (gR O M v0 4 4).bind fun x1 =>
    (aN O M x1).bind fun x2 =>
    if x2 ≤ v1 then (
      f_Hall_ctor_222 O f f v0 (0 : Int32) M
    ) else
    (gR O M v0 4 4).bind fun x3 =>
    xcl (nO M 3) fun x4 M1 =>
    xcl (f_Device_ctor O f x4 M1) fun _ M2 =>
    (wR O M2 x3 v1 x4).bind fun M3 =>
    f_Hall_ctor_192 O f n v0 (v1 + (1 : Int32)) M3
set_option maxRecDepth 20000 in
theorem k_f_Hall_ctor_192 (O : Nat → Option va_E) (f d : Nat) : ∀ (n : Nat) (v0 : Nat) (v1 : Int32) (M : xM), xZ oU O (d + 2) 1 192 [(0, .ref v0), (1, .int v1)] [] M (f_Hall_ctor_192 O f n v0 v1 M) := by
  intro n
  induction n with
  | zero =>
    intro v0 v1 M
    exact xZ.no
  | succ n ih =>
    intro v0 v1 M
    unfold f_Hall_ctor_192
    refine xZ.adv (me := xm1) hP_1 2 (pc' := 194) (lv' := [(0, .ref v0), (1, .int v1)]) (st' := [.ref v0, .int v1]) rfl ?_
    refine xZ.k_gR (me := xm1) hP_1 rfl (fun x1 => ?_)
    refine xZ.k_aN (me := xm1) hP_1 rfl (fun x2 => ?_)
    refine xZ.ic_ge (me := xm1) hP_1 rfl (fun h1 => ?_) (fun h1 => ?_)
    · skip
      refine xZ.adv (me := xm1) hP_1 2 (pc' := 222) (lv' := [(1, .int (0 : Int32)), (0, .ref v0)]) (st' := []) rfl ?_
      exact xZ.sub (xsc (.tail _ (.head _)) (xsc (.head _) xsn)) (show ([1, 0] : List Nat).Nodup from by decide) (k_f_Hall_ctor_222 O f d f v0 (0 : Int32) M)
    · skip
      refine xZ.adv (me := xm1) hP_1 1 (pc' := 202) (lv' := [(0, .ref v0), (1, .int v1)]) (st' := [.ref v0]) rfl ?_
      refine xZ.k_gR (me := xm1) hP_1 rfl (fun x3 => ?_)
      refine xZ.adv (me := xm1) hP_1 1 (pc' := 206) (lv' := [(0, .ref v0), (1, .int v1)]) (st' := [.int v1, .ref x3]) rfl ?_
      refine xZ.k_nO (me := xm1) hP_1 rfl rfl (fun x4 M1 => ?_)
      refine xZ.adv (me := xm1) hP_1 1 (pc' := 210) (lv' := [(0, .ref v0), (1, .int v1)]) (st' := [.ref x4, .ref x4, .int v1, .ref x3]) rfl ?_
      refine xZ.calli (κ := oU) (av := []) (rest := [.ref x4, .int v1, .ref x3]) (st' := fun _ => [.ref x4, .int v1, .ref x3]) (k0 := x4) (me := xm1) hP_1 rfl (Or.inl rfl) rfl rfl (Nat.le_of_ble_eq_true rfl) (by decide) hP_6 (Nat.le_of_ble_eq_true rfl) (fun _ => rfl) (k_f_Device_ctor O f (d + 1) x4 M1) (fun _ M2 => ?_)
      refine xZ.k_wR (me := xm1) hP_1 rfl (fun M3 => ?_)
      refine xZ.adv (me := xm1) hP_1 2 (pc' := 192) (lv' := [(1, .int (v1 + (1 : Int32))), (0, .ref v0)]) (st' := []) rfl ?_
      exact xZ.sub (xsc (.tail _ (.head _)) (xsc (.head _) xsn)) (show ([1, 0] : List Nat).Nodup from by decide) (ih v0 (v1 + (1 : Int32)) M3)
def f_Hall_ctor_162 (O : Nat → Option va_E) (f : Nat) : Nat → Nat → Int32 → xM → Option (Unit × xM)
  | 0, _, _, _ => none
  | n + 1, v0, v1, M =>
    (gR O M v0 4 3).bind fun x1 =>
    (aN O M x1).bind fun x2 =>
    if x2 ≤ v1 then (
      f_Hall_ctor_192 O f f v0 (0 : Int32) M
    ) else
    (gR O M v0 4 3).bind fun x3 =>
    xcl (nO M 10) fun x4 M1 =>
    xcl (f_Series_ctor O f x4 M1) fun _ M2 =>
    (wR O M2 x3 v1 x4).bind fun M3 =>
    f_Hall_ctor_162 O f n v0 (v1 + (1 : Int32)) M3
set_option maxRecDepth 20000 in
theorem k_f_Hall_ctor_162 (O : Nat → Option va_E) (f d : Nat) : ∀ (n : Nat) (v0 : Nat) (v1 : Int32) (M : xM), xZ oU O (d + 2) 1 162 [(0, .ref v0), (1, .int v1)] [] M (f_Hall_ctor_162 O f n v0 v1 M) := by
  intro n
  induction n with
  | zero =>
    intro v0 v1 M
    exact xZ.no
  | succ n ih =>
    intro v0 v1 M
    unfold f_Hall_ctor_162
    refine xZ.adv (me := xm1) hP_1 2 (pc' := 164) (lv' := [(0, .ref v0), (1, .int v1)]) (st' := [.ref v0, .int v1]) rfl ?_
    refine xZ.k_gR (me := xm1) hP_1 rfl (fun x1 => ?_)
    refine xZ.k_aN (me := xm1) hP_1 rfl (fun x2 => ?_)
    refine xZ.ic_ge (me := xm1) hP_1 rfl (fun h1 => ?_) (fun h1 => ?_)
    · skip
      refine xZ.adv (me := xm1) hP_1 2 (pc' := 192) (lv' := [(1, .int (0 : Int32)), (0, .ref v0)]) (st' := []) rfl ?_
      exact xZ.sub (xsc (.tail _ (.head _)) (xsc (.head _) xsn)) (show ([1, 0] : List Nat).Nodup from by decide) (k_f_Hall_ctor_192 O f d f v0 (0 : Int32) M)
    · skip
      refine xZ.adv (me := xm1) hP_1 1 (pc' := 172) (lv' := [(0, .ref v0), (1, .int v1)]) (st' := [.ref v0]) rfl ?_
      refine xZ.k_gR (me := xm1) hP_1 rfl (fun x3 => ?_)
      refine xZ.adv (me := xm1) hP_1 1 (pc' := 176) (lv' := [(0, .ref v0), (1, .int v1)]) (st' := [.int v1, .ref x3]) rfl ?_
      refine xZ.k_nO (me := xm1) hP_1 rfl rfl (fun x4 M1 => ?_)
      refine xZ.adv (me := xm1) hP_1 1 (pc' := 180) (lv' := [(0, .ref v0), (1, .int v1)]) (st' := [.ref x4, .ref x4, .int v1, .ref x3]) rfl ?_
      refine xZ.calli (κ := oU) (av := []) (rest := [.ref x4, .int v1, .ref x3]) (st' := fun _ => [.ref x4, .int v1, .ref x3]) (k0 := x4) (me := xm1) hP_1 rfl (Or.inl rfl) rfl rfl (Nat.le_of_ble_eq_true rfl) (by decide) hP_4 (Nat.le_of_ble_eq_true rfl) (fun _ => rfl) (k_f_Series_ctor O f (d + 0) x4 M1) (fun _ M2 => ?_)
      refine xZ.k_wR (me := xm1) hP_1 rfl (fun M3 => ?_)
      refine xZ.adv (me := xm1) hP_1 2 (pc' := 162) (lv' := [(1, .int (v1 + (1 : Int32))), (0, .ref v0)]) (st' := []) rfl ?_
      exact xZ.sub (xsc (.tail _ (.head _)) (xsc (.head _) xsn)) (show ([1, 0] : List Nat).Nodup from by decide) (ih v0 (v1 + (1 : Int32)) M3)
def f_Hall_ctor_132 (O : Nat → Option va_E) (f : Nat) : Nat → Nat → Int32 → xM → Option (Unit × xM)
  | 0, _, _, _ => none
  | n + 1, v0, v1, M =>
    (gR O M v0 4 1).bind fun x1 =>
    (aN O M x1).bind fun x2 =>
    if x2 ≤ v1 then (
      f_Hall_ctor_162 O f f v0 (0 : Int32) M
    ) else
    (gR O M v0 4 1).bind fun x3 =>
    xcl (nO M 6) fun x4 M1 =>
    xcl (f_Person_ctor O f x4 M1) fun _ M2 =>
    (wR O M2 x3 v1 x4).bind fun M3 =>
    f_Hall_ctor_132 O f n v0 (v1 + (1 : Int32)) M3
set_option maxRecDepth 20000 in
theorem k_f_Hall_ctor_132 (O : Nat → Option va_E) (f d : Nat) : ∀ (n : Nat) (v0 : Nat) (v1 : Int32) (M : xM), xZ oU O (d + 2) 1 132 [(0, .ref v0), (1, .int v1)] [] M (f_Hall_ctor_132 O f n v0 v1 M) := by
  intro n
  induction n with
  | zero =>
    intro v0 v1 M
    exact xZ.no
  | succ n ih =>
    intro v0 v1 M
    unfold f_Hall_ctor_132
    refine xZ.adv (me := xm1) hP_1 2 (pc' := 134) (lv' := [(0, .ref v0), (1, .int v1)]) (st' := [.ref v0, .int v1]) rfl ?_
    refine xZ.k_gR (me := xm1) hP_1 rfl (fun x1 => ?_)
    refine xZ.k_aN (me := xm1) hP_1 rfl (fun x2 => ?_)
    refine xZ.ic_ge (me := xm1) hP_1 rfl (fun h1 => ?_) (fun h1 => ?_)
    · skip
      refine xZ.adv (me := xm1) hP_1 2 (pc' := 162) (lv' := [(1, .int (0 : Int32)), (0, .ref v0)]) (st' := []) rfl ?_
      exact xZ.sub (xsc (.tail _ (.head _)) (xsc (.head _) xsn)) (show ([1, 0] : List Nat).Nodup from by decide) (k_f_Hall_ctor_162 O f d f v0 (0 : Int32) M)
    · skip
      refine xZ.adv (me := xm1) hP_1 1 (pc' := 142) (lv' := [(0, .ref v0), (1, .int v1)]) (st' := [.ref v0]) rfl ?_
      refine xZ.k_gR (me := xm1) hP_1 rfl (fun x3 => ?_)
      refine xZ.adv (me := xm1) hP_1 1 (pc' := 146) (lv' := [(0, .ref v0), (1, .int v1)]) (st' := [.int v1, .ref x3]) rfl ?_
      refine xZ.k_nO (me := xm1) hP_1 rfl rfl (fun x4 M1 => ?_)
      refine xZ.adv (me := xm1) hP_1 1 (pc' := 150) (lv' := [(0, .ref v0), (1, .int v1)]) (st' := [.ref x4, .ref x4, .int v1, .ref x3]) rfl ?_
      refine xZ.calli (κ := oU) (av := []) (rest := [.ref x4, .int v1, .ref x3]) (st' := fun _ => [.ref x4, .int v1, .ref x3]) (k0 := x4) (me := xm1) hP_1 rfl (Or.inl rfl) rfl rfl (Nat.le_of_ble_eq_true rfl) (by decide) hP_3 (Nat.le_of_ble_eq_true rfl) (fun _ => rfl) (k_f_Person_ctor O f (d + 1) x4 M1) (fun _ M2 => ?_)
      refine xZ.k_wR (me := xm1) hP_1 rfl (fun M3 => ?_)
      refine xZ.adv (me := xm1) hP_1 2 (pc' := 132) (lv' := [(1, .int (v1 + (1 : Int32))), (0, .ref v0)]) (st' := []) rfl ?_
      exact xZ.sub (xsc (.tail _ (.head _)) (xsc (.head _) xsn)) (show ([1, 0] : List Nat).Nodup from by decide) (ih v0 (v1 + (1 : Int32)) M3)
def f_Hall_ctor_102 (O : Nat → Option va_E) (f : Nat) : Nat → Nat → Int32 → xM → Option (Unit × xM)
  | 0, _, _, _ => none
  | n + 1, v0, v1, M =>
    (gR O M v0 4 0).bind fun x1 =>
    (aN O M x1).bind fun x2 =>
    if x2 ≤ v1 then (
      f_Hall_ctor_132 O f f v0 (0 : Int32) M
    ) else
    (gR O M v0 4 0).bind fun x3 =>
    xcl (nO M 11) fun x4 M1 =>
    xcl (f_Zone_ctor O f x4 M1) fun _ M2 =>
    (wR O M2 x3 v1 x4).bind fun M3 =>
    f_Hall_ctor_102 O f n v0 (v1 + (1 : Int32)) M3
set_option maxRecDepth 20000 in
theorem k_f_Hall_ctor_102 (O : Nat → Option va_E) (f d : Nat) : ∀ (n : Nat) (v0 : Nat) (v1 : Int32) (M : xM), xZ oU O (d + 2) 1 102 [(0, .ref v0), (1, .int v1)] [] M (f_Hall_ctor_102 O f n v0 v1 M) := by
  intro n
  induction n with
  | zero =>
    intro v0 v1 M
    exact xZ.no
  | succ n ih =>
    intro v0 v1 M
    unfold f_Hall_ctor_102
    refine xZ.adv (me := xm1) hP_1 2 (pc' := 104) (lv' := [(0, .ref v0), (1, .int v1)]) (st' := [.ref v0, .int v1]) rfl ?_
    refine xZ.k_gR (me := xm1) hP_1 rfl (fun x1 => ?_)
    refine xZ.k_aN (me := xm1) hP_1 rfl (fun x2 => ?_)
    refine xZ.ic_ge (me := xm1) hP_1 rfl (fun h1 => ?_) (fun h1 => ?_)
    · skip
      refine xZ.adv (me := xm1) hP_1 2 (pc' := 132) (lv' := [(1, .int (0 : Int32)), (0, .ref v0)]) (st' := []) rfl ?_
      exact xZ.sub (xsc (.tail _ (.head _)) (xsc (.head _) xsn)) (show ([1, 0] : List Nat).Nodup from by decide) (k_f_Hall_ctor_132 O f d f v0 (0 : Int32) M)
    · skip
      refine xZ.adv (me := xm1) hP_1 1 (pc' := 112) (lv' := [(0, .ref v0), (1, .int v1)]) (st' := [.ref v0]) rfl ?_
      refine xZ.k_gR (me := xm1) hP_1 rfl (fun x3 => ?_)
      refine xZ.adv (me := xm1) hP_1 1 (pc' := 116) (lv' := [(0, .ref v0), (1, .int v1)]) (st' := [.int v1, .ref x3]) rfl ?_
      refine xZ.k_nO (me := xm1) hP_1 rfl rfl (fun x4 M1 => ?_)
      refine xZ.adv (me := xm1) hP_1 1 (pc' := 120) (lv' := [(0, .ref v0), (1, .int v1)]) (st' := [.ref x4, .ref x4, .int v1, .ref x3]) rfl ?_
      refine xZ.calli (κ := oU) (av := []) (rest := [.ref x4, .int v1, .ref x3]) (st' := fun _ => [.ref x4, .int v1, .ref x3]) (k0 := x4) (me := xm1) hP_1 rfl (Or.inl rfl) rfl rfl (Nat.le_of_ble_eq_true rfl) (by decide) hP_2 (Nat.le_of_ble_eq_true rfl) (fun _ => rfl) (k_f_Zone_ctor O f (d + 1) x4 M1) (fun _ M2 => ?_)
      refine xZ.k_wR (me := xm1) hP_1 rfl (fun M3 => ?_)
      refine xZ.adv (me := xm1) hP_1 2 (pc' := 102) (lv' := [(1, .int (v1 + (1 : Int32))), (0, .ref v0)]) (st' := []) rfl ?_
      exact xZ.sub (xsc (.tail _ (.head _)) (xsc (.head _) xsn)) (show ([1, 0] : List Nat).Nodup from by decide) (ih v0 (v1 + (1 : Int32)) M3)
def f_Hall_ctor (O : Nat → Option va_E) (f : Nat) (v0 : Nat) (M : xM) : Option (Unit × xM) :=
  xcl (nA M 7 (3 : Int32)) fun x1 M1 =>
  (pR M1 v0 4 0 (some x1)).bind fun M2 =>
  xcl (nA M2 8 (8 : Int32)) fun x2 M3 =>
  (pR M3 v0 4 1 (some x2)).bind fun M4 =>
  xcl (nA M4 0 (4 : Int32)) fun x3 M5 =>
  (wI M5 x3 (0 : Int32) (0 : Int32)).bind fun M6 =>
  (wI M6 x3 (1 : Int32) (1 : Int32)).bind fun M7 =>
  (wI M7 x3 (2 : Int32) (2 : Int32)).bind fun M8 =>
  (wI M8 x3 (3 : Int32) (3 : Int32)).bind fun M9 =>
  (pR M9 v0 4 2 (some x3)).bind fun M10 =>
  xcl (nA M10 9 (12 : Int32)) fun x4 M11 =>
  (pR M11 v0 4 3 (some x4)).bind fun M12 =>
  xcl (nA M12 10 (2 : Int32)) fun x5 M13 =>
  (pR M13 v0 4 4 (some x5)).bind fun M14 =>
  (pI M14 v0 4 5 (14400 : Int32)).bind fun M15 =>
  xcl (nA M15 0 (10 : Int32)) fun x6 M16 =>
  (pR M16 v0 4 6 (some x6)).bind fun M17 =>
  xcl (nA M17 0 (10 : Int32)) fun x7 M18 =>
  (pR M18 v0 4 7 (some x7)).bind fun M19 =>
  xcl (nA M19 1 (30 : Int32)) fun x8 M20 =>
  (pR M20 v0 4 8 (some x8)).bind fun M21 =>
  xcl (nA M21 1 (10 : Int32)) fun x9 M22 =>
  (pR M22 v0 4 10 (some x9)).bind fun M23 =>
  f_Hall_ctor_102 O f f v0 (0 : Int32) M23
set_option maxRecDepth 20000 in
theorem k_f_Hall_ctor (O : Nat → Option va_E) (f d : Nat) (v0 : Nat) (M : xM) : xZ oU O (d + 2) 1 0 [(0, .ref v0)] [] M (f_Hall_ctor O f v0 M) := by
  unfold f_Hall_ctor
  refine xZ.adv (me := xm1) hP_1 1 (pc' := 1) (lv' := [(0, .ref v0)]) (st' := [.ref v0]) rfl ?_
  refine xZ.obj (me := xm1) hP_1 rfl (Nat.le_of_ble_eq_true rfl) ?_
  refine xZ.adv (me := xm1) hP_1 2 (pc' := 6) (lv' := [(0, .ref v0)]) (st' := [.int (3 : Int32), .ref v0]) rfl ?_
  refine xZ.nRr (me := xm1) hP_1 rfl (by decide) (fun x1 M1 => ?_)
  refine xZ.k_pR (x := (some x1)) (me := xm1) hP_1 rfl (fun M2 => ?_)
  refine xZ.adv (me := xm1) hP_1 2 (pc' := 15) (lv' := [(0, .ref v0)]) (st' := [.int (8 : Int32), .ref v0]) rfl ?_
  refine xZ.nRr (me := xm1) hP_1 rfl (by decide) (fun x2 M3 => ?_)
  refine xZ.k_pR (x := (some x2)) (me := xm1) hP_1 rfl (fun M4 => ?_)
  refine xZ.adv (me := xm1) hP_1 2 (pc' := 23) (lv' := [(0, .ref v0)]) (st' := [.int (4 : Int32), .ref v0]) rfl ?_
  refine xZ.k_nA (me := xm1) hP_1 rfl rfl (by decide) (fun x3 M5 => ?_)
  refine xZ.adv (me := xm1) hP_1 3 (pc' := 28) (lv' := [(0, .ref v0)]) (st' := [.int (0 : Int32), .int (0 : Int32), .ref x3, .ref x3, .ref v0]) rfl ?_
  refine xZ.k_wI (me := xm1) hP_1 rfl (fun M6 => ?_)
  refine xZ.adv (me := xm1) hP_1 3 (pc' := 32) (lv' := [(0, .ref v0)]) (st' := [.int (1 : Int32), .int (1 : Int32), .ref x3, .ref x3, .ref v0]) rfl ?_
  refine xZ.k_wI (me := xm1) hP_1 rfl (fun M7 => ?_)
  refine xZ.adv (me := xm1) hP_1 3 (pc' := 36) (lv' := [(0, .ref v0)]) (st' := [.int (2 : Int32), .int (2 : Int32), .ref x3, .ref x3, .ref v0]) rfl ?_
  refine xZ.k_wI (me := xm1) hP_1 rfl (fun M8 => ?_)
  refine xZ.adv (me := xm1) hP_1 3 (pc' := 40) (lv' := [(0, .ref v0)]) (st' := [.int (3 : Int32), .int (3 : Int32), .ref x3, .ref x3, .ref v0]) rfl ?_
  refine xZ.k_wI (me := xm1) hP_1 rfl (fun M9 => ?_)
  refine xZ.k_pR (x := (some x3)) (me := xm1) hP_1 rfl (fun M10 => ?_)
  refine xZ.adv (me := xm1) hP_1 2 (pc' := 47) (lv' := [(0, .ref v0)]) (st' := [.int (12 : Int32), .ref v0]) rfl ?_
  refine xZ.nRr (me := xm1) hP_1 rfl (by decide) (fun x4 M11 => ?_)
  refine xZ.k_pR (x := (some x4)) (me := xm1) hP_1 rfl (fun M12 => ?_)
  refine xZ.adv (me := xm1) hP_1 2 (pc' := 55) (lv' := [(0, .ref v0)]) (st' := [.int (2 : Int32), .ref v0]) rfl ?_
  refine xZ.nRr (me := xm1) hP_1 rfl (by decide) (fun x5 M13 => ?_)
  refine xZ.k_pR (x := (some x5)) (me := xm1) hP_1 rfl (fun M14 => ?_)
  refine xZ.adv (me := xm1) hP_1 2 (pc' := 65) (lv' := [(0, .ref v0)]) (st' := [.int (14400 : Int32), .ref v0]) rfl ?_
  refine xZ.k_pI (me := xm1) hP_1 rfl (fun M15 => ?_)
  refine xZ.adv (me := xm1) hP_1 2 (pc' := 71) (lv' := [(0, .ref v0)]) (st' := [.int (10 : Int32), .ref v0]) rfl ?_
  refine xZ.k_nA (me := xm1) hP_1 rfl rfl (by decide) (fun x6 M16 => ?_)
  refine xZ.k_pR (x := (some x6)) (me := xm1) hP_1 rfl (fun M17 => ?_)
  refine xZ.adv (me := xm1) hP_1 2 (pc' := 79) (lv' := [(0, .ref v0)]) (st' := [.int (10 : Int32), .ref v0]) rfl ?_
  refine xZ.k_nA (me := xm1) hP_1 rfl rfl (by decide) (fun x7 M18 => ?_)
  refine xZ.k_pR (x := (some x7)) (me := xm1) hP_1 rfl (fun M19 => ?_)
  refine xZ.adv (me := xm1) hP_1 2 (pc' := 87) (lv' := [(0, .ref v0)]) (st' := [.int (30 : Int32), .ref v0]) rfl ?_
  refine xZ.k_nA (me := xm1) hP_1 rfl rfl (by decide) (fun x8 M20 => ?_)
  refine xZ.k_pR (x := (some x8)) (me := xm1) hP_1 rfl (fun M21 => ?_)
  refine xZ.adv (me := xm1) hP_1 2 (pc' := 95) (lv' := [(0, .ref v0)]) (st' := [.int (10 : Int32), .ref v0]) rfl ?_
  refine xZ.k_nA (me := xm1) hP_1 rfl rfl (by decide) (fun x9 M22 => ?_)
  refine xZ.k_pR (x := (some x9)) (me := xm1) hP_1 rfl (fun M23 => ?_)
  refine xZ.adv (me := xm1) hP_1 2 (pc' := 102) (lv' := [(1, .int (0 : Int32)), (0, .ref v0)]) (st' := []) rfl ?_
  exact xZ.sub (xsc (.tail _ (.head _)) (xsc (.head _) xsn)) (show ([1, 0] : List Nat).Nodup from by decide) (k_f_Hall_ctor_102 O f d f v0 (0 : Int32) M23)
def f_Dates_ctor (O : Nat → Option va_E) (f : Nat) (v0 : Nat) (M : xM) : Option (Unit × xM) :=
  xcl (nA M 1 (320 : Int32)) fun x1 M1 =>
  (pR M1 v0 2 1 (some x1)).bind fun M2 =>
  xcl (nA M2 0 (16 : Int32)) fun x2 M3 =>
  (pR M3 v0 2 2 (some x2)).bind fun M4 =>
  some ((), M4)
set_option maxRecDepth 20000 in
theorem k_f_Dates_ctor (O : Nat → Option va_E) (f d : Nat) (v0 : Nat) (M : xM) : xZ oU O (d + 0) 7 0 [(0, .ref v0)] [] M (f_Dates_ctor O f v0 M) := by
  unfold f_Dates_ctor
  refine xZ.adv (me := xm7) hP_7 1 (pc' := 1) (lv' := [(0, .ref v0)]) (st' := [.ref v0]) rfl ?_
  refine xZ.obj (me := xm7) hP_7 rfl (Nat.le_of_ble_eq_true rfl) ?_
  refine xZ.adv (me := xm7) hP_7 2 (pc' := 8) (lv' := [(0, .ref v0)]) (st' := [.int (320 : Int32), .ref v0]) rfl ?_
  refine xZ.k_nA (me := xm7) hP_7 rfl rfl (by decide) (fun x1 M1 => ?_)
  refine xZ.k_pR (x := (some x1)) (me := xm7) hP_7 rfl (fun M2 => ?_)
  refine xZ.adv (me := xm7) hP_7 2 (pc' := 16) (lv' := [(0, .ref v0)]) (st' := [.int (16 : Int32), .ref v0]) rfl ?_
  refine xZ.k_nA (me := xm7) hP_7 rfl rfl (by decide) (fun x2 M3 => ?_)
  refine xZ.k_pR (x := (some x2)) (me := xm7) hP_7 rfl (fun M4 => ?_)
  exact xZ.retu (me := xm7) hP_7 rfl rfl
def f_Meetings_ctor (O : Nat → Option va_E) (f : Nat) (v0 : Nat) (M : xM) : Option (Unit × xM) :=
  xcl (nA M 0 (256 : Int32)) fun x1 M1 =>
  (pR M1 v0 5 1 (some x1)).bind fun M2 =>
  xcl (nA M2 0 (256 : Int32)) fun x2 M3 =>
  (pR M3 v0 5 2 (some x2)).bind fun M4 =>
  xcl (nA M4 0 (256 : Int32)) fun x3 M5 =>
  (pR M5 v0 5 3 (some x3)).bind fun M6 =>
  xcl (nA M6 0 (4 : Int32)) fun x4 M7 =>
  (pR M7 v0 5 4 (some x4)).bind fun M8 =>
  xcl (nA M8 1 (256 : Int32)) fun x5 M9 =>
  (pR M9 v0 5 6 (some x5)).bind fun M10 =>
  xcl (nA M10 0 (256 : Int32)) fun x6 M11 =>
  (pR M11 v0 5 7 (some x6)).bind fun M12 =>
  xcl (nA M12 0 (9216 : Int32)) fun x7 M13 =>
  (pR M13 v0 5 8 (some x7)).bind fun M14 =>
  some ((), M14)
set_option maxRecDepth 20000 in
theorem k_f_Meetings_ctor (O : Nat → Option va_E) (f d : Nat) (v0 : Nat) (M : xM) : xZ oU O (d + 0) 8 0 [(0, .ref v0)] [] M (f_Meetings_ctor O f v0 M) := by
  unfold f_Meetings_ctor
  refine xZ.adv (me := xm8) hP_8 1 (pc' := 1) (lv' := [(0, .ref v0)]) (st' := [.ref v0]) rfl ?_
  refine xZ.obj (me := xm8) hP_8 rfl (Nat.le_of_ble_eq_true rfl) ?_
  refine xZ.adv (me := xm8) hP_8 2 (pc' := 8) (lv' := [(0, .ref v0)]) (st' := [.int (256 : Int32), .ref v0]) rfl ?_
  refine xZ.k_nA (me := xm8) hP_8 rfl rfl (by decide) (fun x1 M1 => ?_)
  refine xZ.k_pR (x := (some x1)) (me := xm8) hP_8 rfl (fun M2 => ?_)
  refine xZ.adv (me := xm8) hP_8 2 (pc' := 17) (lv' := [(0, .ref v0)]) (st' := [.int (256 : Int32), .ref v0]) rfl ?_
  refine xZ.k_nA (me := xm8) hP_8 rfl rfl (by decide) (fun x2 M3 => ?_)
  refine xZ.k_pR (x := (some x2)) (me := xm8) hP_8 rfl (fun M4 => ?_)
  refine xZ.adv (me := xm8) hP_8 2 (pc' := 26) (lv' := [(0, .ref v0)]) (st' := [.int (256 : Int32), .ref v0]) rfl ?_
  refine xZ.k_nA (me := xm8) hP_8 rfl rfl (by decide) (fun x3 M5 => ?_)
  refine xZ.k_pR (x := (some x3)) (me := xm8) hP_8 rfl (fun M6 => ?_)
  refine xZ.adv (me := xm8) hP_8 2 (pc' := 33) (lv' := [(0, .ref v0)]) (st' := [.int (4 : Int32), .ref v0]) rfl ?_
  refine xZ.k_nA (me := xm8) hP_8 rfl rfl (by decide) (fun x4 M7 => ?_)
  refine xZ.k_pR (x := (some x4)) (me := xm8) hP_8 rfl (fun M8 => ?_)
  refine xZ.adv (me := xm8) hP_8 2 (pc' := 42) (lv' := [(0, .ref v0)]) (st' := [.int (256 : Int32), .ref v0]) rfl ?_
  refine xZ.k_nA (me := xm8) hP_8 rfl rfl (by decide) (fun x5 M9 => ?_)
  refine xZ.k_pR (x := (some x5)) (me := xm8) hP_8 rfl (fun M10 => ?_)
  refine xZ.adv (me := xm8) hP_8 2 (pc' := 51) (lv' := [(0, .ref v0)]) (st' := [.int (256 : Int32), .ref v0]) rfl ?_
  refine xZ.k_nA (me := xm8) hP_8 rfl rfl (by decide) (fun x6 M11 => ?_)
  refine xZ.k_pR (x := (some x6)) (me := xm8) hP_8 rfl (fun M12 => ?_)
  refine xZ.adv (me := xm8) hP_8 2 (pc' := 60) (lv' := [(0, .ref v0)]) (st' := [.int (9216 : Int32), .ref v0]) rfl ?_
  refine xZ.k_nA (me := xm8) hP_8 rfl rfl (by decide) (fun x7 M13 => ?_)
  refine xZ.k_pR (x := (some x7)) (me := xm8) hP_8 rfl (fun M14 => ?_)
  exact xZ.retu (me := xm8) hP_8 rfl rfl
def f_Planner_ctor (O : Nat → Option va_E) (f : Nat) (v0 : Nat) (M : xM) : Option (Unit × xM) :=
  xcl (nA M 1 (5 : Int32)) fun x1 M1 =>
  (pR M1 v0 7 2 (some x1)).bind fun M2 =>
  xcl (nA M2 0 (5 : Int32)) fun x2 M3 =>
  (pR M3 v0 7 3 (some x2)).bind fun M4 =>
  xcl (nA M4 0 (5 : Int32)) fun x3 M5 =>
  (pR M5 v0 7 4 (some x3)).bind fun M6 =>
  xcl (nA M6 0 (5 : Int32)) fun x4 M7 =>
  (pR M7 v0 7 5 (some x4)).bind fun M8 =>
  xcl (nA M8 0 (5 : Int32)) fun x5 M9 =>
  (pR M9 v0 7 6 (some x5)).bind fun M10 =>
  xcl (nA M10 0 (5 : Int32)) fun x6 M11 =>
  (pR M11 v0 7 7 (some x6)).bind fun M12 =>
  some ((), M12)
set_option maxRecDepth 20000 in
theorem k_f_Planner_ctor (O : Nat → Option va_E) (f d : Nat) (v0 : Nat) (M : xM) : xZ oU O (d + 0) 9 0 [(0, .ref v0)] [] M (f_Planner_ctor O f v0 M) := by
  unfold f_Planner_ctor
  refine xZ.adv (me := xm9) hP_9 1 (pc' := 1) (lv' := [(0, .ref v0)]) (st' := [.ref v0]) rfl ?_
  refine xZ.obj (me := xm9) hP_9 rfl (Nat.le_of_ble_eq_true rfl) ?_
  refine xZ.adv (me := xm9) hP_9 2 (pc' := 6) (lv' := [(0, .ref v0)]) (st' := [.int (5 : Int32), .ref v0]) rfl ?_
  refine xZ.k_nA (me := xm9) hP_9 rfl rfl (by decide) (fun x1 M1 => ?_)
  refine xZ.k_pR (x := (some x1)) (me := xm9) hP_9 rfl (fun M2 => ?_)
  refine xZ.adv (me := xm9) hP_9 2 (pc' := 13) (lv' := [(0, .ref v0)]) (st' := [.int (5 : Int32), .ref v0]) rfl ?_
  refine xZ.k_nA (me := xm9) hP_9 rfl rfl (by decide) (fun x2 M3 => ?_)
  refine xZ.k_pR (x := (some x2)) (me := xm9) hP_9 rfl (fun M4 => ?_)
  refine xZ.adv (me := xm9) hP_9 2 (pc' := 20) (lv' := [(0, .ref v0)]) (st' := [.int (5 : Int32), .ref v0]) rfl ?_
  refine xZ.k_nA (me := xm9) hP_9 rfl rfl (by decide) (fun x3 M5 => ?_)
  refine xZ.k_pR (x := (some x3)) (me := xm9) hP_9 rfl (fun M6 => ?_)
  refine xZ.adv (me := xm9) hP_9 2 (pc' := 27) (lv' := [(0, .ref v0)]) (st' := [.int (5 : Int32), .ref v0]) rfl ?_
  refine xZ.k_nA (me := xm9) hP_9 rfl rfl (by decide) (fun x4 M7 => ?_)
  refine xZ.k_pR (x := (some x4)) (me := xm9) hP_9 rfl (fun M8 => ?_)
  refine xZ.adv (me := xm9) hP_9 2 (pc' := 34) (lv' := [(0, .ref v0)]) (st' := [.int (5 : Int32), .ref v0]) rfl ?_
  refine xZ.k_nA (me := xm9) hP_9 rfl rfl (by decide) (fun x5 M9 => ?_)
  refine xZ.k_pR (x := (some x5)) (me := xm9) hP_9 rfl (fun M10 => ?_)
  refine xZ.adv (me := xm9) hP_9 2 (pc' := 41) (lv' := [(0, .ref v0)]) (st' := [.int (5 : Int32), .ref v0]) rfl ?_
  refine xZ.k_nA (me := xm9) hP_9 rfl rfl (by decide) (fun x6 M11 => ?_)
  refine xZ.k_pR (x := (some x6)) (me := xm9) hP_9 rfl (fun M12 => ?_)
  exact xZ.retu (me := xm9) hP_9 rfl rfl
def f_Reader_ctor (O : Nat → Option va_E) (f : Nat) (v0 : Nat) (M : xM) : Option (Unit × xM) :=
  xcl (nO M 9) fun x1 M1 =>
  xcl (f_Rule_ctor O f x1 M1) fun _ M2 =>
  (pR M2 v0 8 1 (some x1)).bind fun M3 =>
  xcl (nA M3 4 (120 : Int32)) fun x3 M4 =>
  (pR M4 v0 8 2 (some x3)).bind fun M5 =>
  some ((), M5)
set_option maxRecDepth 20000 in
theorem k_f_Reader_ctor (O : Nat → Option va_E) (f d : Nat) (v0 : Nat) (M : xM) : xZ oU O (d + 1) 10 0 [(0, .ref v0)] [] M (f_Reader_ctor O f v0 M) := by
  unfold f_Reader_ctor
  refine xZ.adv (me := xm10) hP_10 1 (pc' := 1) (lv' := [(0, .ref v0)]) (st' := [.ref v0]) rfl ?_
  refine xZ.obj (me := xm10) hP_10 rfl (Nat.le_of_ble_eq_true rfl) ?_
  refine xZ.adv (me := xm10) hP_10 1 (pc' := 5) (lv' := [(0, .ref v0)]) (st' := [.ref v0]) rfl ?_
  refine xZ.k_nO (me := xm10) hP_10 rfl rfl (fun x1 M1 => ?_)
  refine xZ.adv (me := xm10) hP_10 1 (pc' := 9) (lv' := [(0, .ref v0)]) (st' := [.ref x1, .ref x1, .ref v0]) rfl ?_
  refine xZ.calli (κ := oU) (av := []) (rest := [.ref x1, .ref v0]) (st' := fun _ => [.ref x1, .ref v0]) (k0 := x1) (me := xm10) hP_10 rfl (Or.inl rfl) rfl rfl (Nat.le_of_ble_eq_true rfl) (by decide) hP_5 (Nat.le_of_ble_eq_true rfl) (fun _ => rfl) (k_f_Rule_ctor O f (d + 0) x1 M1) (fun _ M2 => ?_)
  refine xZ.k_pR (x := (some x1)) (me := xm10) hP_10 rfl (fun M3 => ?_)
  refine xZ.adv (me := xm10) hP_10 2 (pc' := 18) (lv' := [(0, .ref v0)]) (st' := [.int (120 : Int32), .ref v0]) rfl ?_
  refine xZ.k_nA (me := xm10) hP_10 rfl rfl (by decide) (fun x3 M4 => ?_)
  refine xZ.k_pR (x := (some x3)) (me := xm10) hP_10 rfl (fun M5 => ?_)
  exact xZ.retu (me := xm10) hP_10 rfl rfl
def f_AbstractStringBuilder_ctor (O : Nat → Option va_E) (f : Nat) (v0 : Nat) (v1 : Int32) (M : xM) : Option (Unit × xM) :=
  if (1 : Int32) = 0 then (
    none
  ) else
  xcl (nA M 3 v1) fun x1 M1 =>
  (pR M1 v0 1 0 (some x1)).bind fun M2 =>
  (pI M2 v0 1 1 (0 : Int32)).bind fun M3 =>
  some ((), M3)
set_option maxRecDepth 20000 in
theorem k_f_AbstractStringBuilder_ctor (O : Nat → Option va_E) (f d : Nat) (v0 : Nat) (v1 : Int32) (M : xM) : xZ oU O (d + 0) 255 0 [(0, .ref v0), (1, .int v1)] [] M (f_AbstractStringBuilder_ctor O f v0 v1 M) := by
  unfold f_AbstractStringBuilder_ctor
  refine xZ.adv (me := xm255) hP_255 1 (pc' := 1) (lv' := [(0, .ref v0), (1, .int v1)]) (st' := [.ref v0]) rfl ?_
  refine xZ.obj (me := xm255) hP_255 rfl (Nat.le_of_ble_eq_true rfl) ?_
  refine xZ.adv (me := xm255) hP_255 1 (pc' := 7) (lv' := [(0, .ref v0), (1, .int v1)]) (st' := [.int (1 : Int32)]) rfl ?_
  refine xZ.if_eq (me := xm255) hP_255 rfl (fun h1 => ?_) (fun h1 => ?_)
  · skip
    refine xZ.adv (me := xm255) hP_255 2 (pc' := 27) (lv' := [(0, .ref v0), (1, .int v1)]) (st' := [.int v1, .ref v0]) rfl ?_
    exact xZ.no
  · skip
    refine xZ.adv (me := xm255) hP_255 2 (pc' := 12) (lv' := [(0, .ref v0), (1, .int v1)]) (st' := [.int v1, .ref v0]) rfl ?_
    refine xZ.k_nA (me := xm255) hP_255 rfl rfl (by decide) (fun x1 M1 => ?_)
    refine xZ.k_pR (x := (some x1)) (me := xm255) hP_255 rfl (fun M2 => ?_)
    refine xZ.adv (me := xm255) hP_255 2 (pc' := 19) (lv' := [(0, .ref v0), (1, .int v1)]) (st' := [.int (0 : Int32), .ref v0]) rfl ?_
    refine xZ.k_pI (me := xm255) hP_255 rfl (fun M3 => ?_)
    refine xZ.adv (me := xm255) hP_255 1 (pc' := 38) (lv' := [(0, .ref v0), (1, .int v1)]) (st' := []) rfl ?_
    exact xZ.retu (me := xm255) hP_255 rfl rfl
def f_StringBuilder_ctor (O : Nat → Option va_E) (f : Nat) (v0 : Nat) (M : xM) : Option (Unit × xM) :=
  xcl (f_AbstractStringBuilder_ctor O f v0 (16 : Int32) M) fun _ M1 =>
  some ((), M1)
set_option maxRecDepth 20000 in
theorem k_f_StringBuilder_ctor (O : Nat → Option va_E) (f d : Nat) (v0 : Nat) (M : xM) : xZ oU O (d + 1) 254 0 [(0, .ref v0)] [] M (f_StringBuilder_ctor O f v0 M) := by
  unfold f_StringBuilder_ctor
  refine xZ.adv (me := xm254) hP_254 2 (pc' := 3) (lv' := [(0, .ref v0)]) (st' := [.int (16 : Int32), .ref v0]) rfl ?_
  refine xZ.calli (κ := oU) (av := [.int (16 : Int32)]) (rest := []) (st' := fun _ => []) (k0 := v0) (me := xm254) hP_254 rfl (Or.inl rfl) rfl rfl (Nat.le_of_ble_eq_true rfl) (by decide) hP_255 (Nat.le_of_ble_eq_true rfl) (fun _ => rfl) (k_f_AbstractStringBuilder_ctor O f (d + 0) v0 (16 : Int32) M) (fun _ M1 => ?_)
  exact xZ.retu (me := xm254) hP_254 rfl rfl
def f_Calendarhall_ctor_90 (O : Nat → Option va_E) (f : Nat) : Nat → Nat → Int32 → xM → Option (Unit × xM)
  | 0, _, _, _ => none
  | n + 1, v0, v1, M =>
    (gR O M v0 12 1).bind fun x1 =>
    (aN O M x1).bind fun x2 =>
    if x2 ≤ v1 then (
      some ((), M)
    ) else
    (gR O M v0 12 1).bind fun x3 =>
    xcl (nO M 4) fun x4 M1 =>
    xcl (f_Hall_ctor O f x4 M1) fun _ M2 =>
    (wR O M2 x3 v1 x4).bind fun M3 =>
    f_Calendarhall_ctor_90 O f n v0 (v1 + (1 : Int32)) M3
set_option maxRecDepth 20000 in
theorem k_f_Calendarhall_ctor_90 (O : Nat → Option va_E) (f d : Nat) : ∀ (n : Nat) (v0 : Nat) (v1 : Int32) (M : xM), xZ oU O (d + 3) 0 90 [(0, .ref v0), (1, .int v1)] [] M (f_Calendarhall_ctor_90 O f n v0 v1 M) := by
  intro n
  induction n with
  | zero =>
    intro v0 v1 M
    exact xZ.no
  | succ n ih =>
    intro v0 v1 M
    unfold f_Calendarhall_ctor_90
    refine xZ.adv (me := xm0) hP_0 2 (pc' := 92) (lv' := [(0, .ref v0), (1, .int v1)]) (st' := [.ref v0, .int v1]) rfl ?_
    refine xZ.k_gR (me := xm0) hP_0 rfl (fun x1 => ?_)
    refine xZ.k_aN (me := xm0) hP_0 rfl (fun x2 => ?_)
    refine xZ.ic_ge (me := xm0) hP_0 rfl (fun h1 => ?_) (fun h1 => ?_)
    · skip
      exact xZ.retu (me := xm0) hP_0 rfl rfl
    · skip
      refine xZ.adv (me := xm0) hP_0 1 (pc' := 100) (lv' := [(0, .ref v0), (1, .int v1)]) (st' := [.ref v0]) rfl ?_
      refine xZ.k_gR (me := xm0) hP_0 rfl (fun x3 => ?_)
      refine xZ.adv (me := xm0) hP_0 1 (pc' := 104) (lv' := [(0, .ref v0), (1, .int v1)]) (st' := [.int v1, .ref x3]) rfl ?_
      refine xZ.k_nO (me := xm0) hP_0 rfl rfl (fun x4 M1 => ?_)
      refine xZ.adv (me := xm0) hP_0 1 (pc' := 108) (lv' := [(0, .ref v0), (1, .int v1)]) (st' := [.ref x4, .ref x4, .int v1, .ref x3]) rfl ?_
      refine xZ.calli (κ := oU) (av := []) (rest := [.ref x4, .int v1, .ref x3]) (st' := fun _ => [.ref x4, .int v1, .ref x3]) (k0 := x4) (me := xm0) hP_0 rfl (Or.inl rfl) rfl rfl (Nat.le_of_ble_eq_true rfl) (by decide) hP_1 (Nat.le_of_ble_eq_true rfl) (fun _ => rfl) (k_f_Hall_ctor O f (d + 0) x4 M1) (fun _ M2 => ?_)
      refine xZ.k_wR (me := xm0) hP_0 rfl (fun M3 => ?_)
      refine xZ.adv (me := xm0) hP_0 2 (pc' := 90) (lv' := [(1, .int (v1 + (1 : Int32))), (0, .ref v0)]) (st' := []) rfl ?_
      exact xZ.sub (xsc (.tail _ (.head _)) (xsc (.head _) xsn)) (show ([1, 0] : List Nat).Nodup from by decide) (ih v0 (v1 + (1 : Int32)) M3)
def f_Calendarhall_ctor (O : Nat → Option va_E) (f : Nat) (v0 : Nat) (M : xM) : Option (Unit × xM) :=
  xcl (nO M 4) fun x1 M1 =>
  xcl (f_Hall_ctor O f x1 M1) fun _ M2 =>
  (pR M2 v0 12 0 (some x1)).bind fun M3 =>
  xcl (nA M3 6 (8 : Int32)) fun x3 M4 =>
  (pR M4 v0 12 1 (some x3)).bind fun M5 =>
  xcl (nO M5 2) fun x4 M6 =>
  xcl (f_Dates_ctor O f x4 M6) fun _ M7 =>
  (pR M7 v0 12 4 (some x4)).bind fun M8 =>
  xcl (nO M8 5) fun x6 M9 =>
  xcl (f_Meetings_ctor O f x6 M9) fun _ M10 =>
  (pR M10 v0 12 5 (some x6)).bind fun M11 =>
  xcl (nO M11 7) fun x8 M12 =>
  xcl (f_Planner_ctor O f x8 M12) fun _ M13 =>
  (pR M13 v0 12 6 (some x8)).bind fun M14 =>
  xcl (nO M14 8) fun x10 M15 =>
  xcl (f_Reader_ctor O f x10 M15) fun _ M16 =>
  (pR M16 v0 12 7 (some x10)).bind fun M17 =>
  xcl (nO M17 1) fun x12 M18 =>
  xcl (f_StringBuilder_ctor O f x12 M18) fun _ M19 =>
  (pR M19 v0 12 8 (some x12)).bind fun M20 =>
  xcl (nA M20 0 (672 : Int32)) fun x14 M21 =>
  (pR M21 v0 12 9 (some x14)).bind fun M22 =>
  f_Calendarhall_ctor_90 O f f v0 (0 : Int32) M22
set_option maxRecDepth 20000 in
theorem k_f_Calendarhall_ctor (O : Nat → Option va_E) (f d : Nat) (v0 : Nat) (M : xM) : xZ oU O (d + 3) 0 0 [(0, .ref v0)] [] M (f_Calendarhall_ctor O f v0 M) := by
  unfold f_Calendarhall_ctor
  refine xZ.adv (me := xm0) hP_0 1 (pc' := 1) (lv' := [(0, .ref v0)]) (st' := [.ref v0]) rfl ?_
  refine xZ.obj (me := xm0) hP_0 rfl (Nat.le_of_ble_eq_true rfl) ?_
  refine xZ.adv (me := xm0) hP_0 1 (pc' := 5) (lv' := [(0, .ref v0)]) (st' := [.ref v0]) rfl ?_
  refine xZ.k_nO (me := xm0) hP_0 rfl rfl (fun x1 M1 => ?_)
  refine xZ.adv (me := xm0) hP_0 1 (pc' := 9) (lv' := [(0, .ref v0)]) (st' := [.ref x1, .ref x1, .ref v0]) rfl ?_
  refine xZ.calli (κ := oU) (av := []) (rest := [.ref x1, .ref v0]) (st' := fun _ => [.ref x1, .ref v0]) (k0 := x1) (me := xm0) hP_0 rfl (Or.inl rfl) rfl rfl (Nat.le_of_ble_eq_true rfl) (by decide) hP_1 (Nat.le_of_ble_eq_true rfl) (fun _ => rfl) (k_f_Hall_ctor O f (d + 0) x1 M1) (fun _ M2 => ?_)
  refine xZ.k_pR (x := (some x1)) (me := xm0) hP_0 rfl (fun M3 => ?_)
  refine xZ.adv (me := xm0) hP_0 2 (pc' := 18) (lv' := [(0, .ref v0)]) (st' := [.int (8 : Int32), .ref v0]) rfl ?_
  refine xZ.nRr (me := xm0) hP_0 rfl (by decide) (fun x3 M4 => ?_)
  refine xZ.k_pR (x := (some x3)) (me := xm0) hP_0 rfl (fun M5 => ?_)
  refine xZ.adv (me := xm0) hP_0 1 (pc' := 25) (lv' := [(0, .ref v0)]) (st' := [.ref v0]) rfl ?_
  refine xZ.k_nO (me := xm0) hP_0 rfl rfl (fun x4 M6 => ?_)
  refine xZ.adv (me := xm0) hP_0 1 (pc' := 29) (lv' := [(0, .ref v0)]) (st' := [.ref x4, .ref x4, .ref v0]) rfl ?_
  refine xZ.calli (κ := oU) (av := []) (rest := [.ref x4, .ref v0]) (st' := fun _ => [.ref x4, .ref v0]) (k0 := x4) (me := xm0) hP_0 rfl (Or.inl rfl) rfl rfl (Nat.le_of_ble_eq_true rfl) (by decide) hP_7 (Nat.le_of_ble_eq_true rfl) (fun _ => rfl) (k_f_Dates_ctor O f (d + 2) x4 M6) (fun _ M7 => ?_)
  refine xZ.k_pR (x := (some x4)) (me := xm0) hP_0 rfl (fun M8 => ?_)
  refine xZ.adv (me := xm0) hP_0 1 (pc' := 36) (lv' := [(0, .ref v0)]) (st' := [.ref v0]) rfl ?_
  refine xZ.k_nO (me := xm0) hP_0 rfl rfl (fun x6 M9 => ?_)
  refine xZ.adv (me := xm0) hP_0 1 (pc' := 40) (lv' := [(0, .ref v0)]) (st' := [.ref x6, .ref x6, .ref v0]) rfl ?_
  refine xZ.calli (κ := oU) (av := []) (rest := [.ref x6, .ref v0]) (st' := fun _ => [.ref x6, .ref v0]) (k0 := x6) (me := xm0) hP_0 rfl (Or.inl rfl) rfl rfl (Nat.le_of_ble_eq_true rfl) (by decide) hP_8 (Nat.le_of_ble_eq_true rfl) (fun _ => rfl) (k_f_Meetings_ctor O f (d + 2) x6 M9) (fun _ M10 => ?_)
  refine xZ.k_pR (x := (some x6)) (me := xm0) hP_0 rfl (fun M11 => ?_)
  refine xZ.adv (me := xm0) hP_0 1 (pc' := 47) (lv' := [(0, .ref v0)]) (st' := [.ref v0]) rfl ?_
  refine xZ.k_nO (me := xm0) hP_0 rfl rfl (fun x8 M12 => ?_)
  refine xZ.adv (me := xm0) hP_0 1 (pc' := 51) (lv' := [(0, .ref v0)]) (st' := [.ref x8, .ref x8, .ref v0]) rfl ?_
  refine xZ.calli (κ := oU) (av := []) (rest := [.ref x8, .ref v0]) (st' := fun _ => [.ref x8, .ref v0]) (k0 := x8) (me := xm0) hP_0 rfl (Or.inl rfl) rfl rfl (Nat.le_of_ble_eq_true rfl) (by decide) hP_9 (Nat.le_of_ble_eq_true rfl) (fun _ => rfl) (k_f_Planner_ctor O f (d + 2) x8 M12) (fun _ M13 => ?_)
  refine xZ.k_pR (x := (some x8)) (me := xm0) hP_0 rfl (fun M14 => ?_)
  refine xZ.adv (me := xm0) hP_0 1 (pc' := 58) (lv' := [(0, .ref v0)]) (st' := [.ref v0]) rfl ?_
  refine xZ.k_nO (me := xm0) hP_0 rfl rfl (fun x10 M15 => ?_)
  refine xZ.adv (me := xm0) hP_0 1 (pc' := 62) (lv' := [(0, .ref v0)]) (st' := [.ref x10, .ref x10, .ref v0]) rfl ?_
  refine xZ.calli (κ := oU) (av := []) (rest := [.ref x10, .ref v0]) (st' := fun _ => [.ref x10, .ref v0]) (k0 := x10) (me := xm0) hP_0 rfl (Or.inl rfl) rfl rfl (Nat.le_of_ble_eq_true rfl) (by decide) hP_10 (Nat.le_of_ble_eq_true rfl) (fun _ => rfl) (k_f_Reader_ctor O f (d + 1) x10 M15) (fun _ M16 => ?_)
  refine xZ.k_pR (x := (some x10)) (me := xm0) hP_0 rfl (fun M17 => ?_)
  refine xZ.adv (me := xm0) hP_0 1 (pc' := 69) (lv' := [(0, .ref v0)]) (st' := [.ref v0]) rfl ?_
  refine xZ.k_nO (me := xm0) hP_0 rfl rfl (fun x12 M18 => ?_)
  refine xZ.adv (me := xm0) hP_0 1 (pc' := 73) (lv' := [(0, .ref v0)]) (st' := [.ref x12, .ref x12, .ref v0]) rfl ?_
  refine xZ.calli (κ := oU) (av := []) (rest := [.ref x12, .ref v0]) (st' := fun _ => [.ref x12, .ref v0]) (k0 := x12) (me := xm0) hP_0 rfl (Or.inl rfl) rfl rfl (Nat.le_of_ble_eq_true rfl) (by decide) hP_254 (Nat.le_of_ble_eq_true rfl) (fun _ => rfl) (k_f_StringBuilder_ctor O f (d + 1) x12 M18) (fun _ M19 => ?_)
  refine xZ.k_pR (x := (some x12)) (me := xm0) hP_0 rfl (fun M20 => ?_)
  refine xZ.adv (me := xm0) hP_0 2 (pc' := 83) (lv' := [(0, .ref v0)]) (st' := [.int (672 : Int32), .ref v0]) rfl ?_
  refine xZ.k_nA (me := xm0) hP_0 rfl rfl (by decide) (fun x14 M21 => ?_)
  refine xZ.k_pR (x := (some x14)) (me := xm0) hP_0 rfl (fun M22 => ?_)
  refine xZ.adv (me := xm0) hP_0 2 (pc' := 90) (lv' := [(1, .int (0 : Int32)), (0, .ref v0)]) (st' := []) rfl ?_
  exact xZ.sub (xsc (.tail _ (.head _)) (xsc (.head _) xsn)) (show ([1, 0] : List Nat).Nodup from by decide) (k_f_Calendarhall_ctor_90 O f d f v0 (0 : Int32) M22)
def f_LDraw_ctor_19 (O : Nat → Option va_E) (f : Nat) : Nat → Nat → Nat → Int32 → Int32 → xM → Option (Unit × xM)
  | 0, _, _, _, _, _ => none
  | n + 1, v0, v2, v3, v4, M =>
    if v3 ≤ v4 then (
      some ((), M)
    ) else
    (aI O M v2 v4).bind fun x1 =>
    (gL O M v0 15 0).bind fun x2 =>
    (pL M v0 15 0 (((x2 + (Int32.toInt64 x1)) * (6364136223846793005 : Int64)) + (1442695040888963407 : Int64))).bind fun M1 =>
    f_LDraw_ctor_19 O f n v0 v2 v3 (v4 + (1 : Int32)) M1
set_option maxRecDepth 20000 in
theorem k_f_LDraw_ctor_19 (O : Nat → Option va_E) (f d : Nat) : ∀ (n : Nat) (v0 : Nat) (v2 : Nat) (v3 : Int32) (v4 : Int32) (M : xM), xZ oU O (d + 0) 11 19 [(0, .ref v0), (2, .ref v2), (3, .int v3), (4, .int v4)] [] M (f_LDraw_ctor_19 O f n v0 v2 v3 v4 M) := by
  intro n
  induction n with
  | zero =>
    intro v0 v2 v3 v4 M
    exact xZ.no
  | succ n ih =>
    intro v0 v2 v3 v4 M
    unfold f_LDraw_ctor_19
    refine xZ.adv (me := xm11) hP_11 2 (pc' := 22) (lv' := [(0, .ref v0), (2, .ref v2), (3, .int v3), (4, .int v4)]) (st' := [.int v3, .int v4]) rfl ?_
    refine xZ.ic_ge (me := xm11) hP_11 rfl (fun h1 => ?_) (fun h1 => ?_)
    · skip
      exact xZ.retu (me := xm11) hP_11 rfl rfl
    · skip
      refine xZ.adv (me := xm11) hP_11 2 (pc' := 28) (lv' := [(0, .ref v0), (2, .ref v2), (3, .int v3), (4, .int v4)]) (st' := [.int v4, .ref v2]) rfl ?_
      refine xZ.k_aI (me := xm11) hP_11 rfl (fun x1 => ?_)
      refine xZ.adv (me := xm11) hP_11 3 (pc' := 33) (lv' := [(5, .int x1), (0, .ref v0), (2, .ref v2), (3, .int v3), (4, .int v4)]) (st' := [.ref v0, .ref v0]) rfl ?_
      refine xZ.k_gL (me := xm11) hP_11 rfl (fun x2 => ?_)
      refine xZ.adv (me := xm11) hP_11 7 (pc' := 48) (lv' := [(5, .int x1), (0, .ref v0), (2, .ref v2), (3, .int v3), (4, .int v4)]) (st' := [.long (((x2 + (Int32.toInt64 x1)) * (6364136223846793005 : Int64)) + (1442695040888963407 : Int64)), .ref v0]) rfl ?_
      refine xZ.k_pL (me := xm11) hP_11 rfl (fun M1 => ?_)
      refine xZ.adv (me := xm11) hP_11 2 (pc' := 19) (lv' := [(4, .int (v4 + (1 : Int32))), (5, .int x1), (0, .ref v0), (2, .ref v2), (3, .int v3)]) (st' := []) rfl ?_
      exact xZ.sub (xsc (.tail _ (.tail _ (.head _))) (xsc (.tail _ (.tail _ (.tail _ (.head _)))) (xsc (.tail _ (.tail _ (.tail _ (.tail _ (.head _))))) (xsc (.head _) xsn)))) (show ([4, 5, 0, 2, 3] : List Nat).Nodup from by decide) (ih v0 v2 v3 (v4 + (1 : Int32)) M1)
def f_LDraw_ctor (O : Nat → Option va_E) (f : Nat) (v0 : Nat) (v1 : Nat) (M : xM) : Option (Unit × xM) :=
  (pL M v0 15 0 (13 : Int64)).bind fun M1 =>
  (aN O M1 v1).bind fun x1 =>
  f_LDraw_ctor_19 O f f v0 v1 x1 (0 : Int32) M1
set_option maxRecDepth 20000 in
theorem k_f_LDraw_ctor (O : Nat → Option va_E) (f d : Nat) (v0 : Nat) (v1 : Nat) (M : xM) : xZ oU O (d + 0) 11 0 [(0, .ref v0), (1, .ref v1)] [] M (f_LDraw_ctor O f v0 v1 M) := by
  unfold f_LDraw_ctor
  refine xZ.adv (me := xm11) hP_11 1 (pc' := 1) (lv' := [(0, .ref v0), (1, .ref v1)]) (st' := [.ref v0]) rfl ?_
  refine xZ.obj (me := xm11) hP_11 rfl (Nat.le_of_ble_eq_true rfl) ?_
  refine xZ.adv (me := xm11) hP_11 2 (pc' := 8) (lv' := [(0, .ref v0), (1, .ref v1)]) (st' := [.long (13 : Int64), .ref v0]) rfl ?_
  refine xZ.k_pL (me := xm11) hP_11 rfl (fun M1 => ?_)
  refine xZ.adv (me := xm11) hP_11 3 (pc' := 14) (lv' := [(2, .ref v1), (0, .ref v0), (1, .ref v1)]) (st' := [.ref v1]) rfl ?_
  refine xZ.k_aN (me := xm11) hP_11 rfl (fun x1 => ?_)
  refine xZ.adv (me := xm11) hP_11 3 (pc' := 19) (lv' := [(4, .int (0 : Int32)), (3, .int x1), (2, .ref v1), (0, .ref v0), (1, .ref v1)]) (st' := []) rfl ?_
  exact xZ.sub (xsc (.tail _ (.tail _ (.tail _ (.head _)))) (xsc (.tail _ (.tail _ (.head _))) (xsc (.tail _ (.head _)) (xsc (.head _) xsn)))) (show ([4, 3, 2, 0, 1] : List Nat).Nodup from by decide) (k_f_LDraw_ctor_19 O f d f v0 v1 x1 (0 : Int32) M1)
def f_LDraw_n (O : Nat → Option va_E) (f : Nat) (v0 : Nat) (v1 : Int32) (M : xM) : Option (Int32 × xM) :=
  (gL O M v0 15 0).bind fun x1 =>
  (pL M v0 15 0 ((x1 * (6364136223846793005 : Int64)) + (1442695040888963407 : Int64))).bind fun M1 =>
  (gL O M1 v0 15 0).bind fun x2 =>
  if (Int32.toInt64 v1) = 0 then none else xlet ((Int64.toUInt64 x2 >>> ((Int32.toInt64 (33 : Int32)).toUInt64 &&& Int64.toUInt64 63)).toInt64 - (Int64.toUInt64 x2 >>> ((Int32.toInt64 (33 : Int32)).toUInt64 &&& Int64.toUInt64 63)).toInt64 / (Int32.toInt64 v1) * (Int32.toInt64 v1)) fun x3 =>
  some ((Int64.toInt32 x3), M1)
set_option maxRecDepth 20000 in
theorem k_f_LDraw_n (O : Nat → Option va_E) (f d : Nat) (v0 : Nat) (v1 : Int32) (M : xM) : xZ oI O (d + 0) 12 0 [(0, .ref v0), (1, .int v1)] [] M (f_LDraw_n O f v0 v1 M) := by
  unfold f_LDraw_n
  refine xZ.adv (me := xm12) hP_12 2 (pc' := 2) (lv' := [(0, .ref v0), (1, .int v1)]) (st' := [.ref v0, .ref v0]) rfl ?_
  refine xZ.k_gL (me := xm12) hP_12 rfl (fun x1 => ?_)
  refine xZ.adv (me := xm12) hP_12 4 (pc' := 13) (lv' := [(0, .ref v0), (1, .int v1)]) (st' := [.long ((x1 * (6364136223846793005 : Int64)) + (1442695040888963407 : Int64)), .ref v0]) rfl ?_
  refine xZ.k_pL (me := xm12) hP_12 rfl (fun M1 => ?_)
  refine xZ.adv (me := xm12) hP_12 1 (pc' := 17) (lv' := [(0, .ref v0), (1, .int v1)]) (st' := [.ref v0]) rfl ?_
  refine xZ.k_gL (me := xm12) hP_12 rfl (fun x2 => ?_)
  refine xZ.adv (me := xm12) hP_12 4 (pc' := 25) (lv' := [(0, .ref v0), (1, .int v1)]) (st' := [.long (Int32.toInt64 v1), .long ((Int64.toUInt64 x2 >>> ((Int32.toInt64 (33 : Int32)).toUInt64 &&& Int64.toUInt64 63)).toInt64)]) rfl ?_
  refine xZ.lrem (me := xm12) hP_12 rfl (fun x3 => ?_)
  refine xZ.adv (me := xm12) hP_12 1 (pc' := 27) (lv' := [(0, .ref v0), (1, .int v1)]) (st' := [.int (Int64.toInt32 x3)]) rfl ?_
  exact xZ.reti (me := xm12) hP_12 rfl rfl
def f_LDays_length_26 (O : Nat → Option va_E) (f : Nat) (v2 : Int32) (s0 : Int32) (M : xM) : Option (Int32 × xM) :=
  if v2 = (2 : Int32) then (
    if s0 = 0 then (
      some ((28 : Int32), M)
    ) else
    some ((29 : Int32), M)
  ) else
  if v2 = (4 : Int32) then (
    some ((30 : Int32), M)
  ) else
  if v2 = (6 : Int32) then (
    some ((30 : Int32), M)
  ) else
  if v2 = (9 : Int32) then (
    some ((30 : Int32), M)
  ) else
  if v2 = (11 : Int32) then (
    some ((30 : Int32), M)
  ) else
  some ((31 : Int32), M)
set_option maxRecDepth 20000 in
theorem k_f_LDays_length_26 (O : Nat → Option va_E) (f d : Nat) (v2 : Int32) (s0 : Int32) (M : xM) : xZ oI O (d + 0) 15 26 [(2, .int v2)] [.int s0] M (f_LDays_length_26 O f v2 s0 M) := by
  unfold f_LDays_length_26
  refine xZ.adv (me := xm15) hP_15 3 (pc' := 29) (lv' := [(3, .int s0), (2, .int v2)]) (st' := [.int (2 : Int32), .int v2]) rfl ?_
  refine xZ.ic_ne (me := xm15) hP_15 rfl (fun h1 => ?_) (fun h1 => ?_)
  · skip
    refine xZ.adv (me := xm15) hP_15 1 (pc' := 33) (lv' := [(3, .int s0), (2, .int v2)]) (st' := [.int s0]) rfl ?_
    refine xZ.if_eq (me := xm15) hP_15 rfl (fun h2 => ?_) (fun h2 => ?_)
    · skip
      refine xZ.adv (me := xm15) hP_15 2 (pc' := 76) (lv' := [(3, .int s0), (2, .int v2)]) (st' := [.int (28 : Int32)]) rfl ?_
      exact xZ.reti (me := xm15) hP_15 rfl rfl
    · skip
      refine xZ.adv (me := xm15) hP_15 2 (pc' := 76) (lv' := [(3, .int s0), (2, .int v2)]) (st' := [.int (29 : Int32)]) rfl ?_
      exact xZ.reti (me := xm15) hP_15 rfl rfl
  · skip
    refine xZ.adv (me := xm15) hP_15 2 (pc' := 48) (lv' := [(3, .int s0), (2, .int v2)]) (st' := [.int (4 : Int32), .int v2]) rfl ?_
    refine xZ.ic_eq (me := xm15) hP_15 rfl (fun h3 => ?_) (fun h3 => ?_)
    · skip
      refine xZ.adv (me := xm15) hP_15 2 (pc' := 76) (lv' := [(3, .int s0), (2, .int v2)]) (st' := [.int (30 : Int32)]) rfl ?_
      exact xZ.reti (me := xm15) hP_15 rfl rfl
    · skip
      refine xZ.adv (me := xm15) hP_15 2 (pc' := 54) (lv' := [(3, .int s0), (2, .int v2)]) (st' := [.int (6 : Int32), .int v2]) rfl ?_
      refine xZ.ic_eq (me := xm15) hP_15 rfl (fun h4 => ?_) (fun h4 => ?_)
      · skip
        refine xZ.adv (me := xm15) hP_15 2 (pc' := 76) (lv' := [(3, .int s0), (2, .int v2)]) (st' := [.int (30 : Int32)]) rfl ?_
        exact xZ.reti (me := xm15) hP_15 rfl rfl
      · skip
        refine xZ.adv (me := xm15) hP_15 2 (pc' := 60) (lv' := [(3, .int s0), (2, .int v2)]) (st' := [.int (9 : Int32), .int v2]) rfl ?_
        refine xZ.ic_eq (me := xm15) hP_15 rfl (fun h5 => ?_) (fun h5 => ?_)
        · skip
          refine xZ.adv (me := xm15) hP_15 2 (pc' := 76) (lv' := [(3, .int s0), (2, .int v2)]) (st' := [.int (30 : Int32)]) rfl ?_
          exact xZ.reti (me := xm15) hP_15 rfl rfl
        · skip
          refine xZ.adv (me := xm15) hP_15 2 (pc' := 66) (lv' := [(3, .int s0), (2, .int v2)]) (st' := [.int (11 : Int32), .int v2]) rfl ?_
          refine xZ.ic_ne (me := xm15) hP_15 rfl (fun h6 => ?_) (fun h6 => ?_)
          · skip
            refine xZ.adv (me := xm15) hP_15 2 (pc' := 76) (lv' := [(3, .int s0), (2, .int v2)]) (st' := [.int (30 : Int32)]) rfl ?_
            exact xZ.reti (me := xm15) hP_15 rfl rfl
          · skip
            refine xZ.adv (me := xm15) hP_15 1 (pc' := 76) (lv' := [(3, .int s0), (2, .int v2)]) (st' := [.int (31 : Int32)]) rfl ?_
            exact xZ.reti (me := xm15) hP_15 rfl rfl
def f_LDays_length_25 (O : Nat → Option va_E) (f : Nat) (v2 : Int32) (M : xM) : Option (Int32 × xM) :=
  f_LDays_length_26 O f v2 (0 : Int32) M
set_option maxRecDepth 20000 in
theorem k_f_LDays_length_25 (O : Nat → Option va_E) (f d : Nat) (v2 : Int32) (M : xM) : xZ oI O (d + 0) 15 25 [(2, .int v2)] [] M (f_LDays_length_25 O f v2 M) := by
  unfold f_LDays_length_25
  refine xZ.adv (me := xm15) hP_15 1 (pc' := 26) (lv' := [(2, .int v2)]) (st' := [.int (0 : Int32)]) rfl ?_
  exact (k_f_LDays_length_26 O f d v2 (0 : Int32) M)
def f_LDays_length_21 (O : Nat → Option va_E) (f : Nat) (v2 : Int32) (M : xM) : Option (Int32 × xM) :=
  f_LDays_length_26 O f v2 (1 : Int32) M
set_option maxRecDepth 20000 in
theorem k_f_LDays_length_21 (O : Nat → Option va_E) (f d : Nat) (v2 : Int32) (M : xM) : xZ oI O (d + 0) 15 21 [(2, .int v2)] [] M (f_LDays_length_21 O f v2 M) := by
  unfold f_LDays_length_21
  refine xZ.adv (me := xm15) hP_15 2 (pc' := 26) (lv' := [(2, .int v2)]) (st' := [.int (1 : Int32)]) rfl ?_
  exact (k_f_LDays_length_26 O f d v2 (1 : Int32) M)
def f_LDays_length (O : Nat → Option va_E) (f : Nat) (v0 : Nat) (v1 : Int32) (v2 : Int32) (M : xM) : Option (Int32 × xM) :=
  if (v1 - v1 / (400 : Int32) * (400 : Int32)) = 0 then (
    f_LDays_length_21 O f v2 M
  ) else
  if (v1 - v1 / (4 : Int32) * (4 : Int32)) = 0 then (
    if (v1 - v1 / (100 : Int32) * (100 : Int32)) = 0 then (
      f_LDays_length_25 O f v2 M
    ) else
    f_LDays_length_21 O f v2 M
  ) else
  f_LDays_length_25 O f v2 M
set_option maxRecDepth 20000 in
theorem k_f_LDays_length (O : Nat → Option va_E) (f d : Nat) (v0 : Nat) (v1 : Int32) (v2 : Int32) (M : xM) : xZ oI O (d + 0) 15 0 [(0, .ref v0), (1, .int v1), (2, .int v2)] [] M (f_LDays_length O f v0 v1 v2 M) := by
  unfold f_LDays_length
  refine xZ.adv (me := xm15) hP_15 3 (pc' := 5) (lv' := [(0, .ref v0), (1, .int v1), (2, .int v2)]) (st' := [.int (v1 - v1 / (400 : Int32) * (400 : Int32))]) rfl ?_
  refine xZ.if_eq (me := xm15) hP_15 rfl (fun h1 => ?_) (fun h1 => ?_)
  · skip
    exact xZ.sub (xsc (.tail _ (.tail _ (.head _))) xsn) (show ([0, 1, 2] : List Nat).Nodup from by decide) (k_f_LDays_length_21 O f d v2 M)
  · skip
    refine xZ.adv (me := xm15) hP_15 3 (pc' := 11) (lv' := [(0, .ref v0), (1, .int v1), (2, .int v2)]) (st' := [.int (v1 - v1 / (4 : Int32) * (4 : Int32))]) rfl ?_
    refine xZ.if_ne (me := xm15) hP_15 rfl (fun h2 => ?_) (fun h2 => ?_)
    · skip
      refine xZ.adv (me := xm15) hP_15 3 (pc' := 18) (lv' := [(0, .ref v0), (1, .int v1), (2, .int v2)]) (st' := [.int (v1 - v1 / (100 : Int32) * (100 : Int32))]) rfl ?_
      refine xZ.if_eq (me := xm15) hP_15 rfl (fun h3 => ?_) (fun h3 => ?_)
      · skip
        exact xZ.sub (xsc (.tail _ (.tail _ (.head _))) xsn) (show ([0, 1, 2] : List Nat).Nodup from by decide) (k_f_LDays_length_25 O f d v2 M)
      · skip
        exact xZ.sub (xsc (.tail _ (.tail _ (.head _))) xsn) (show ([0, 1, 2] : List Nat).Nodup from by decide) (k_f_LDays_length_21 O f d v2 M)
    · skip
      exact xZ.sub (xsc (.tail _ (.tail _ (.head _))) xsn) (show ([0, 1, 2] : List Nat).Nodup from by decide) (k_f_LDays_length_25 O f d v2 M)
def f_LDays_ctor_112 (O : Nat → Option va_E) (f : Nat) (K51 : Nat → Int32 → Int32 → Int32 → Int32 → xM → Option (Unit × xM)) (v0 : Nat) (v1 : Int32) (v2 : Int32) (v3 : Int32) (v4 : Int32) (s0 : Nat) (s1 : Int32) (s2 : Int32) (M : xM) : Option (Unit × xM) :=
  (wI M s0 s1 s2).bind fun M1 =>
  (isO O M1 v0 14).bind fun _ =>
  xcl (f_LDays_length O f v0 v1 v2 M1) fun x1 M2 =>
  if x1 < (v3 + (1 : Int32)) then (
    if (12 : Int32) < (v2 + (1 : Int32)) then (
      K51 v0 (v1 + (1 : Int32)) (1 : Int32) (1 : Int32) (v4 + (1 : Int32)) M2
    ) else
    K51 v0 v1 (v2 + (1 : Int32)) (1 : Int32) (v4 + (1 : Int32)) M2
  ) else
  K51 v0 v1 v2 (v3 + (1 : Int32)) (v4 + (1 : Int32)) M2
set_option maxRecDepth 20000 in
theorem k_f_LDays_ctor_112 (O : Nat → Option va_E) (f d : Nat) (K51 : Nat → Int32 → Int32 → Int32 → Int32 → xM → Option (Unit × xM)) (hK51 : ∀ (v0 : Nat) (v1 : Int32) (v2 : Int32) (v3 : Int32) (v4 : Int32) M, xZ oU O (d + 1) 14 51 [(0, .ref v0), (1, .int v1), (2, .int v2), (3, .int v3), (4, .int v4)] [] M (K51 v0 v1 v2 v3 v4 M)) (v0 : Nat) (v1 : Int32) (v2 : Int32) (v3 : Int32) (v4 : Int32) (s0 : Nat) (s1 : Int32) (s2 : Int32) (M : xM) : xZ oU O (d + 1) 14 112 [(0, .ref v0), (1, .int v1), (2, .int v2), (3, .int v3), (4, .int v4)] [.int s2, .int s1, .ref s0] M (f_LDays_ctor_112 O f K51 v0 v1 v2 v3 v4 s0 s1 s2 M) := by
  unfold f_LDays_ctor_112
  refine xZ.k_wI (me := xm14) hP_14 rfl (fun M1 => ?_)
  refine xZ.adv (me := xm14) hP_14 5 (pc' := 120) (lv' := [(3, .int (v3 + (1 : Int32))), (0, .ref v0), (1, .int v1), (2, .int v2), (4, .int v4)]) (st' := [.int v2, .int v1, .ref v0, .int (v3 + (1 : Int32))]) rfl ?_
  refine xZ.callv (κ := oI) (av := [.int v1, .int v2]) (rest := [.int (v3 + (1 : Int32))]) (st' := fun x1 => [.int x1, .int (v3 + (1 : Int32))]) (k0 := v0) (me := xm14) hP_14 rfl (Or.inl rfl) ⟨rfl, by decide⟩ rfl rfl (Nat.le_of_ble_eq_true rfl) (by decide) hP_15 (Nat.le_of_ble_eq_true rfl) (fun _ => rfl) (k_f_LDays_length O f (d + 0) v0 v1 v2 M1) (fun x1 M2 => ?_)
  refine xZ.ic_gt (me := xm14) hP_14 rfl (fun h1 => ?_) (fun h1 => ?_)
  · skip
    refine xZ.adv (me := xm14) hP_14 5 (pc' := 137) (lv' := [(2, .int (v2 + (1 : Int32))), (3, .int (1 : Int32)), (0, .ref v0), (1, .int v1), (4, .int v4)]) (st' := [.int (12 : Int32), .int (v2 + (1 : Int32))]) rfl ?_
    refine xZ.ic_gt (me := xm14) hP_14 rfl (fun h2 => ?_) (fun h2 => ?_)
    · skip
      refine xZ.adv (me := xm14) hP_14 5 (pc' := 51) (lv' := [(4, .int (v4 + (1 : Int32))), (1, .int (v1 + (1 : Int32))), (2, .int (1 : Int32)), (3, .int (1 : Int32)), (0, .ref v0)]) (st' := []) rfl ?_
      exact xZ.sub (xsc (.tail _ (.tail _ (.tail _ (.tail _ (.head _))))) (xsc (.tail _ (.head _)) (xsc (.tail _ (.tail _ (.head _))) (xsc (.tail _ (.tail _ (.tail _ (.head _)))) (xsc (.head _) xsn))))) (show ([4, 1, 2, 3, 0] : List Nat).Nodup from by decide) (hK51 v0 (v1 + (1 : Int32)) (1 : Int32) (1 : Int32) (v4 + (1 : Int32)) M2)
    · skip
      refine xZ.adv (me := xm14) hP_14 3 (pc' := 51) (lv' := [(4, .int (v4 + (1 : Int32))), (2, .int (v2 + (1 : Int32))), (3, .int (1 : Int32)), (0, .ref v0), (1, .int v1)]) (st' := []) rfl ?_
      exact xZ.sub (xsc (.tail _ (.tail _ (.tail _ (.head _)))) (xsc (.tail _ (.tail _ (.tail _ (.tail _ (.head _))))) (xsc (.tail _ (.head _)) (xsc (.tail _ (.tail _ (.head _))) (xsc (.head _) xsn))))) (show ([4, 2, 3, 0, 1] : List Nat).Nodup from by decide) (hK51 v0 v1 (v2 + (1 : Int32)) (1 : Int32) (v4 + (1 : Int32)) M2)
  · skip
    refine xZ.adv (me := xm14) hP_14 3 (pc' := 51) (lv' := [(4, .int (v4 + (1 : Int32))), (3, .int (v3 + (1 : Int32))), (0, .ref v0), (1, .int v1), (2, .int v2)]) (st' := []) rfl ?_
    exact xZ.sub (xsc (.tail _ (.tail _ (.head _))) (xsc (.tail _ (.tail _ (.tail _ (.head _)))) (xsc (.tail _ (.tail _ (.tail _ (.tail _ (.head _))))) (xsc (.tail _ (.head _)) (xsc (.head _) xsn))))) (show ([4, 3, 0, 1, 2] : List Nat).Nodup from by decide) (hK51 v0 v1 v2 (v3 + (1 : Int32)) (v4 + (1 : Int32)) M2)
def f_LDays_ctor_51 (O : Nat → Option va_E) (f : Nat) : Nat → Nat → Int32 → Int32 → Int32 → Int32 → xM → Option (Unit × xM)
  | 0, _, _, _, _, _, _ => none
  | n + 1, v0, v1, v2, v3, v4, M =>
    if (6000 : Int32) ≤ v4 then (
      some ((), M)
    ) else
    (gR O M v0 14 0).bind fun x1 =>
    (wI M x1 v4 v1).bind fun M1 =>
    (gR O M1 v0 14 1).bind fun x2 =>
    (wI M1 x2 v4 v2).bind fun M2 =>
    (gR O M2 v0 14 2).bind fun x3 =>
    (wI M2 x3 v4 v3).bind fun M3 =>
    (gR O M3 v0 14 3).bind fun x4 =>
    if v4 = 0 then (
      f_LDays_ctor_112 O f (f_LDays_ctor_51 O f n) v0 v1 v2 v3 v4 x4 v4 (5 : Int32) M3
    ) else
    (gR O M3 v0 14 3).bind fun x5 =>
    (aI O M3 x5 (v4 - (1 : Int32))).bind fun x6 =>
    f_LDays_ctor_112 O f (f_LDays_ctor_51 O f n) v0 v1 v2 v3 v4 x4 v4 ((x6 + (1 : Int32)) - (x6 + (1 : Int32)) / (7 : Int32) * (7 : Int32)) M3
set_option maxRecDepth 20000 in
theorem k_f_LDays_ctor_51 (O : Nat → Option va_E) (f d : Nat) : ∀ (n : Nat) (v0 : Nat) (v1 : Int32) (v2 : Int32) (v3 : Int32) (v4 : Int32) (M : xM), xZ oU O (d + 1) 14 51 [(0, .ref v0), (1, .int v1), (2, .int v2), (3, .int v3), (4, .int v4)] [] M (f_LDays_ctor_51 O f n v0 v1 v2 v3 v4 M) := by
  intro n
  induction n with
  | zero =>
    intro v0 v1 v2 v3 v4 M
    exact xZ.no
  | succ n ih =>
    intro v0 v1 v2 v3 v4 M
    unfold f_LDays_ctor_51
    refine xZ.adv (me := xm14) hP_14 2 (pc' := 56) (lv' := [(0, .ref v0), (1, .int v1), (2, .int v2), (3, .int v3), (4, .int v4)]) (st' := [.int (6000 : Int32), .int v4]) rfl ?_
    refine xZ.ic_ge (me := xm14) hP_14 rfl (fun h1 => ?_) (fun h1 => ?_)
    · skip
      exact xZ.retu (me := xm14) hP_14 rfl rfl
    · skip
      refine xZ.adv (me := xm14) hP_14 1 (pc' := 60) (lv' := [(0, .ref v0), (1, .int v1), (2, .int v2), (3, .int v3), (4, .int v4)]) (st' := [.ref v0]) rfl ?_
      refine xZ.k_gR (me := xm14) hP_14 rfl (fun x1 => ?_)
      refine xZ.adv (me := xm14) hP_14 2 (pc' := 66) (lv' := [(0, .ref v0), (1, .int v1), (2, .int v2), (3, .int v3), (4, .int v4)]) (st' := [.int v1, .int v4, .ref x1]) rfl ?_
      refine xZ.k_wI (me := xm14) hP_14 rfl (fun M1 => ?_)
      refine xZ.adv (me := xm14) hP_14 1 (pc' := 68) (lv' := [(0, .ref v0), (1, .int v1), (2, .int v2), (3, .int v3), (4, .int v4)]) (st' := [.ref v0]) rfl ?_
      refine xZ.k_gR (me := xm14) hP_14 rfl (fun x2 => ?_)
      refine xZ.adv (me := xm14) hP_14 2 (pc' := 74) (lv' := [(0, .ref v0), (1, .int v1), (2, .int v2), (3, .int v3), (4, .int v4)]) (st' := [.int v2, .int v4, .ref x2]) rfl ?_
      refine xZ.k_wI (me := xm14) hP_14 rfl (fun M2 => ?_)
      refine xZ.adv (me := xm14) hP_14 1 (pc' := 76) (lv' := [(0, .ref v0), (1, .int v1), (2, .int v2), (3, .int v3), (4, .int v4)]) (st' := [.ref v0]) rfl ?_
      refine xZ.k_gR (me := xm14) hP_14 rfl (fun x3 => ?_)
      refine xZ.adv (me := xm14) hP_14 2 (pc' := 82) (lv' := [(0, .ref v0), (1, .int v1), (2, .int v2), (3, .int v3), (4, .int v4)]) (st' := [.int v3, .int v4, .ref x3]) rfl ?_
      refine xZ.k_wI (me := xm14) hP_14 rfl (fun M3 => ?_)
      refine xZ.adv (me := xm14) hP_14 1 (pc' := 84) (lv' := [(0, .ref v0), (1, .int v1), (2, .int v2), (3, .int v3), (4, .int v4)]) (st' := [.ref v0]) rfl ?_
      refine xZ.k_gR (me := xm14) hP_14 rfl (fun x4 => ?_)
      refine xZ.adv (me := xm14) hP_14 2 (pc' := 91) (lv' := [(0, .ref v0), (1, .int v1), (2, .int v2), (3, .int v3), (4, .int v4)]) (st' := [.int v4, .int v4, .ref x4]) rfl ?_
      refine xZ.if_ne (me := xm14) hP_14 rfl (fun h2 => ?_) (fun h2 => ?_)
      · skip
        refine xZ.adv (me := xm14) hP_14 2 (pc' := 112) (lv' := [(0, .ref v0), (1, .int v1), (2, .int v2), (3, .int v3), (4, .int v4)]) (st' := [.int (5 : Int32), .int v4, .ref x4]) rfl ?_
        exact (k_f_LDays_ctor_112 O f d (f_LDays_ctor_51 O f n) ih v0 v1 v2 v3 v4 x4 v4 (5 : Int32) M3)
      · skip
        refine xZ.adv (me := xm14) hP_14 1 (pc' := 99) (lv' := [(0, .ref v0), (1, .int v1), (2, .int v2), (3, .int v3), (4, .int v4)]) (st' := [.ref v0, .int v4, .ref x4]) rfl ?_
        refine xZ.k_gR (me := xm14) hP_14 rfl (fun x5 => ?_)
        refine xZ.adv (me := xm14) hP_14 3 (pc' := 106) (lv' := [(0, .ref v0), (1, .int v1), (2, .int v2), (3, .int v3), (4, .int v4)]) (st' := [.int (v4 - (1 : Int32)), .ref x5, .int v4, .ref x4]) rfl ?_
        refine xZ.k_aI (me := xm14) hP_14 rfl (fun x6 => ?_)
        refine xZ.adv (me := xm14) hP_14 4 (pc' := 112) (lv' := [(0, .ref v0), (1, .int v1), (2, .int v2), (3, .int v3), (4, .int v4)]) (st' := [.int ((x6 + (1 : Int32)) - (x6 + (1 : Int32)) / (7 : Int32) * (7 : Int32)), .int v4, .ref x4]) rfl ?_
        exact (k_f_LDays_ctor_112 O f d (f_LDays_ctor_51 O f n) ih v0 v1 v2 v3 v4 x4 v4 ((x6 + (1 : Int32)) - (x6 + (1 : Int32)) / (7 : Int32) * (7 : Int32)) M3)
def f_LDays_ctor (O : Nat → Option va_E) (f : Nat) (v0 : Nat) (M : xM) : Option (Unit × xM) :=
  xcl (nA M 0 (6000 : Int32)) fun x1 M1 =>
  (pR M1 v0 14 0 (some x1)).bind fun M2 =>
  xcl (nA M2 0 (6000 : Int32)) fun x2 M3 =>
  (pR M3 v0 14 1 (some x2)).bind fun M4 =>
  xcl (nA M4 0 (6000 : Int32)) fun x3 M5 =>
  (pR M5 v0 14 2 (some x3)).bind fun M6 =>
  xcl (nA M6 0 (6000 : Int32)) fun x4 M7 =>
  (pR M7 v0 14 3 (some x4)).bind fun M8 =>
  f_LDays_ctor_51 O f f v0 (2000 : Int32) (1 : Int32) (1 : Int32) (0 : Int32) M8
set_option maxRecDepth 20000 in
theorem k_f_LDays_ctor (O : Nat → Option va_E) (f d : Nat) (v0 : Nat) (M : xM) : xZ oU O (d + 1) 14 0 [(0, .ref v0)] [] M (f_LDays_ctor O f v0 M) := by
  unfold f_LDays_ctor
  refine xZ.adv (me := xm14) hP_14 1 (pc' := 1) (lv' := [(0, .ref v0)]) (st' := [.ref v0]) rfl ?_
  refine xZ.obj (me := xm14) hP_14 rfl (Nat.le_of_ble_eq_true rfl) ?_
  refine xZ.adv (me := xm14) hP_14 2 (pc' := 8) (lv' := [(0, .ref v0)]) (st' := [.int (6000 : Int32), .ref v0]) rfl ?_
  refine xZ.k_nA (me := xm14) hP_14 rfl rfl (by decide) (fun x1 M1 => ?_)
  refine xZ.k_pR (x := (some x1)) (me := xm14) hP_14 rfl (fun M2 => ?_)
  refine xZ.adv (me := xm14) hP_14 2 (pc' := 17) (lv' := [(0, .ref v0)]) (st' := [.int (6000 : Int32), .ref v0]) rfl ?_
  refine xZ.k_nA (me := xm14) hP_14 rfl rfl (by decide) (fun x2 M3 => ?_)
  refine xZ.k_pR (x := (some x2)) (me := xm14) hP_14 rfl (fun M4 => ?_)
  refine xZ.adv (me := xm14) hP_14 2 (pc' := 26) (lv' := [(0, .ref v0)]) (st' := [.int (6000 : Int32), .ref v0]) rfl ?_
  refine xZ.k_nA (me := xm14) hP_14 rfl rfl (by decide) (fun x3 M5 => ?_)
  refine xZ.k_pR (x := (some x3)) (me := xm14) hP_14 rfl (fun M6 => ?_)
  refine xZ.adv (me := xm14) hP_14 2 (pc' := 35) (lv' := [(0, .ref v0)]) (st' := [.int (6000 : Int32), .ref v0]) rfl ?_
  refine xZ.k_nA (me := xm14) hP_14 rfl rfl (by decide) (fun x4 M7 => ?_)
  refine xZ.k_pR (x := (some x4)) (me := xm14) hP_14 rfl (fun M8 => ?_)
  refine xZ.adv (me := xm14) hP_14 8 (pc' := 51) (lv' := [(4, .int (0 : Int32)), (3, .int (1 : Int32)), (2, .int (1 : Int32)), (1, .int (2000 : Int32)), (0, .ref v0)]) (st' := []) rfl ?_
  exact xZ.sub (xsc (.tail _ (.tail _ (.tail _ (.tail _ (.head _))))) (xsc (.tail _ (.tail _ (.tail _ (.head _)))) (xsc (.tail _ (.tail _ (.head _))) (xsc (.tail _ (.head _)) (xsc (.head _) xsn))))) (show ([4, 3, 2, 1, 0] : List Nat).Nodup from by decide) (k_f_LDays_ctor_51 O f d f v0 (2000 : Int32) (1 : Int32) (1 : Int32) (0 : Int32) M8)
def f_LRule_ctor (O : Nat → Option va_E) (f : Nat) (v0 : Nat) (M : xM) : Option (Unit × xM) :=
  some ((), M)
set_option maxRecDepth 20000 in
theorem k_f_LRule_ctor (O : Nat → Option va_E) (f d : Nat) (v0 : Nat) (M : xM) : xZ oU O (d + 0) 16 0 [(0, .ref v0)] [] M (f_LRule_ctor O f v0 M) := by
  unfold f_LRule_ctor
  refine xZ.adv (me := xm16) hP_16 1 (pc' := 1) (lv' := [(0, .ref v0)]) (st' := [.ref v0]) rfl ?_
  refine xZ.obj (me := xm16) hP_16 rfl (Nat.le_of_ble_eq_true rfl) ?_
  exact xZ.retu (me := xm16) hP_16 rfl rfl
def f_LDraw_is (O : Nat → Option va_E) (f : Nat) (v0 : Nat) (v1 : Int32) (M : xM) : Option (Int32 × xM) :=
  (isO O M v0 15).bind fun _ =>
  xcl (f_LDraw_n O f v0 v1 M) fun x1 M1 =>
  if x1 = 0 then (
    some ((1 : Int32), M1)
  ) else
  some ((0 : Int32), M1)
set_option maxRecDepth 20000 in
theorem k_f_LDraw_is (O : Nat → Option va_E) (f d : Nat) (v0 : Nat) (v1 : Int32) (M : xM) : xZ oI O (d + 1) 18 0 [(0, .ref v0), (1, .int v1)] [] M (f_LDraw_is O f v0 v1 M) := by
  unfold f_LDraw_is
  refine xZ.adv (me := xm18) hP_18 2 (pc' := 2) (lv' := [(0, .ref v0), (1, .int v1)]) (st' := [.int v1, .ref v0]) rfl ?_
  refine xZ.callv (κ := oI) (av := [.int v1]) (rest := []) (st' := fun x1 => [.int x1]) (k0 := v0) (me := xm18) hP_18 rfl (Or.inl rfl) ⟨rfl, by decide⟩ rfl rfl (Nat.le_of_ble_eq_true rfl) (by decide) hP_12 (Nat.le_of_ble_eq_true rfl) (fun _ => rfl) (k_f_LDraw_n O f (d + 0) v0 v1 M) (fun x1 M1 => ?_)
  refine xZ.if_ne (me := xm18) hP_18 rfl (fun h1 => ?_) (fun h1 => ?_)
  · skip
    refine xZ.adv (me := xm18) hP_18 2 (pc' := 13) (lv' := [(0, .ref v0), (1, .int v1)]) (st' := [.int (1 : Int32)]) rfl ?_
    exact xZ.rete (me := xm18) hP_18 rfl rfl rfl
  · skip
    refine xZ.adv (me := xm18) hP_18 1 (pc' := 13) (lv' := [(0, .ref v0), (1, .int v1)]) (st' := [.int (0 : Int32)]) rfl ?_
    exact xZ.rete (me := xm18) hP_18 rfl rfl rfl
def f_LRule_draw_213 (O : Nat → Option va_E) (f : Nat) (s0 : Nat) (s1 : Int32) (M : xM) : Option (Unit × xM) :=
  (pI M s0 16 6 s1).bind fun M1 =>
  some ((), M1)
set_option maxRecDepth 20000 in
theorem k_f_LRule_draw_213 (O : Nat → Option va_E) (f d : Nat) (s0 : Nat) (s1 : Int32) (M : xM) : xZ oU O (d + 2) 17 213 [] [.int s1, .ref s0] M (f_LRule_draw_213 O f s0 s1 M) := by
  unfold f_LRule_draw_213
  refine xZ.k_pI (me := xm17) hP_17 rfl (fun M1 => ?_)
  exact xZ.retu (me := xm17) hP_17 rfl rfl
def f_LRule_draw_158 (O : Nat → Option va_E) (f : Nat) (v0 : Nat) (v1 : Nat) (s0 : Nat) (s1 : Int32) (M : xM) : Option (Unit × xM) :=
  (pI M s0 16 4 s1).bind fun M1 =>
  (isO O M1 v1 15).bind fun _ =>
  xcl (f_LDraw_n O f v1 (3 : Int32) M1) fun x1 M2 =>
  (pI M2 v0 16 5 x1).bind fun M3 =>
  (gI O M3 v0 16 5).bind fun x2 =>
  if x2 = 0 then (
    f_LRule_draw_213 O f v0 (0 : Int32) M3
  ) else
  (gI O M3 v0 16 5).bind fun x3 =>
  if x3 = (1 : Int32) then (
    (isO O M3 v1 15).bind fun _ =>
    xcl (f_LDraw_n O f v1 (12 : Int32) M3) fun x4 M4 =>
    f_LRule_draw_213 O f v0 ((1 : Int32) + x4) M4
  ) else
  (gI O M3 v0 16 0).bind fun x5 =>
  (isO O M3 v1 15).bind fun _ =>
  xcl (f_LDraw_n O f v1 (900 : Int32) M3) fun x6 M5 =>
  f_LRule_draw_213 O f v0 (x5 + x6) M5
set_option maxRecDepth 20000 in
theorem k_f_LRule_draw_158 (O : Nat → Option va_E) (f d : Nat) (v0 : Nat) (v1 : Nat) (s0 : Nat) (s1 : Int32) (M : xM) : xZ oU O (d + 2) 17 158 [(0, .ref v0), (1, .ref v1)] [.int s1, .ref s0] M (f_LRule_draw_158 O f v0 v1 s0 s1 M) := by
  unfold f_LRule_draw_158
  refine xZ.k_pI (me := xm17) hP_17 rfl (fun M1 => ?_)
  refine xZ.adv (me := xm17) hP_17 3 (pc' := 164) (lv' := [(0, .ref v0), (1, .ref v1)]) (st' := [.int (3 : Int32), .ref v1, .ref v0]) rfl ?_
  refine xZ.callv (κ := oI) (av := [.int (3 : Int32)]) (rest := [.ref v0]) (st' := fun x1 => [.int x1, .ref v0]) (k0 := v1) (me := xm17) hP_17 rfl (Or.inl rfl) ⟨rfl, by decide⟩ rfl rfl (Nat.le_of_ble_eq_true rfl) (by decide) hP_12 (Nat.le_of_ble_eq_true rfl) (fun _ => rfl) (k_f_LDraw_n O f (d + 1) v1 (3 : Int32) M1) (fun x1 M2 => ?_)
  refine xZ.k_pI (me := xm17) hP_17 rfl (fun M3 => ?_)
  refine xZ.adv (me := xm17) hP_17 2 (pc' := 172) (lv' := [(0, .ref v0), (1, .ref v1)]) (st' := [.ref v0, .ref v0]) rfl ?_
  refine xZ.k_gI (me := xm17) hP_17 rfl (fun x2 => ?_)
  refine xZ.if_ne (me := xm17) hP_17 rfl (fun h1 => ?_) (fun h1 => ?_)
  · skip
    refine xZ.adv (me := xm17) hP_17 2 (pc' := 213) (lv' := [(0, .ref v0), (1, .ref v1)]) (st' := [.int (0 : Int32), .ref v0]) rfl ?_
    exact xZ.sub xsn (show ([0, 1] : List Nat).Nodup from by decide) (k_f_LRule_draw_213 O f d v0 (0 : Int32) M3)
  · skip
    refine xZ.adv (me := xm17) hP_17 1 (pc' := 183) (lv' := [(0, .ref v0), (1, .ref v1)]) (st' := [.ref v0, .ref v0]) rfl ?_
    refine xZ.k_gI (me := xm17) hP_17 rfl (fun x3 => ?_)
    refine xZ.adv (me := xm17) hP_17 1 (pc' := 187) (lv' := [(0, .ref v0), (1, .ref v1)]) (st' := [.int (1 : Int32), .int x3, .ref v0]) rfl ?_
    refine xZ.ic_ne (me := xm17) hP_17 rfl (fun h2 => ?_) (fun h2 => ?_)
    · skip
      refine xZ.adv (me := xm17) hP_17 3 (pc' := 194) (lv' := [(0, .ref v0), (1, .ref v1)]) (st' := [.int (12 : Int32), .ref v1, .int (1 : Int32), .ref v0]) rfl ?_
      refine xZ.callv (κ := oI) (av := [.int (12 : Int32)]) (rest := [.int (1 : Int32), .ref v0]) (st' := fun x4 => [.int x4, .int (1 : Int32), .ref v0]) (k0 := v1) (me := xm17) hP_17 rfl (Or.inl rfl) ⟨rfl, by decide⟩ rfl rfl (Nat.le_of_ble_eq_true rfl) (by decide) hP_12 (Nat.le_of_ble_eq_true rfl) (fun _ => rfl) (k_f_LDraw_n O f (d + 1) v1 (12 : Int32) M3) (fun x4 M4 => ?_)
      refine xZ.adv (me := xm17) hP_17 2 (pc' := 213) (lv' := [(0, .ref v0), (1, .ref v1)]) (st' := [.int ((1 : Int32) + x4), .ref v0]) rfl ?_
      exact xZ.sub xsn (show ([0, 1] : List Nat).Nodup from by decide) (k_f_LRule_draw_213 O f d v0 ((1 : Int32) + x4) M4)
    · skip
      refine xZ.adv (me := xm17) hP_17 1 (pc' := 202) (lv' := [(0, .ref v0), (1, .ref v1)]) (st' := [.ref v0, .ref v0]) rfl ?_
      refine xZ.k_gI (me := xm17) hP_17 rfl (fun x5 => ?_)
      refine xZ.adv (me := xm17) hP_17 2 (pc' := 209) (lv' := [(0, .ref v0), (1, .ref v1)]) (st' := [.int (900 : Int32), .ref v1, .int x5, .ref v0]) rfl ?_
      refine xZ.callv (κ := oI) (av := [.int (900 : Int32)]) (rest := [.int x5, .ref v0]) (st' := fun x6 => [.int x6, .int x5, .ref v0]) (k0 := v1) (me := xm17) hP_17 rfl (Or.inl rfl) ⟨rfl, by decide⟩ rfl rfl (Nat.le_of_ble_eq_true rfl) (by decide) hP_12 (Nat.le_of_ble_eq_true rfl) (fun _ => rfl) (k_f_LDraw_n O f (d + 1) v1 (900 : Int32) M3) (fun x6 M5 => ?_)
      refine xZ.adv (me := xm17) hP_17 1 (pc' := 213) (lv' := [(0, .ref v0), (1, .ref v1)]) (st' := [.int (x5 + x6), .ref v0]) rfl ?_
      exact xZ.sub xsn (show ([0, 1] : List Nat).Nodup from by decide) (k_f_LRule_draw_213 O f d v0 (x5 + x6) M5)
def f_LRule_draw_79 (O : Nat → Option va_E) (f : Nat) (v0 : Nat) (v1 : Nat) (s0 : Nat) (s1 : Int32) (M : xM) : Option (Unit × xM) :=
  (pI M s0 16 3 s1).bind fun M1 =>
  (gI O M1 v0 16 1).bind fun x1 =>
  if x1 = (3 : Int32) then (
    (isO O M1 v1 15).bind fun _ =>
    xcl (f_LDraw_is O f v1 (3 : Int32) M1) fun x2 M2 =>
    if x2 = 0 then (
      (isO O M2 v1 15).bind fun _ =>
      xcl (f_LDraw_n O f v1 (31 : Int32) M2) fun x3 M3 =>
      f_LRule_draw_158 O f v0 v1 v0 ((1 : Int32) + x3) M3
    ) else
    (isO O M2 v1 15).bind fun _ =>
    xcl (f_LDraw_n O f v1 (31 : Int32) M2) fun x4 M4 =>
    f_LRule_draw_158 O f v0 v1 v0 ((-1 : Int32) - x4) M4
  ) else
  (gI O M1 v0 16 1).bind fun x5 =>
  if x5 = (4 : Int32) then (
    (isO O M1 v1 15).bind fun _ =>
    xcl (f_LDraw_is O f v1 (3 : Int32) M1) fun x6 M5 =>
    if x6 = 0 then (
      (isO O M5 v1 15).bind fun _ =>
      xcl (f_LDraw_n O f v1 (5 : Int32) M5) fun x7 M6 =>
      f_LRule_draw_158 O f v0 v1 v0 ((1 : Int32) + x7) M6
    ) else
    (isO O M5 v1 15).bind fun _ =>
    xcl (f_LDraw_n O f v1 (5 : Int32) M5) fun x8 M7 =>
    f_LRule_draw_158 O f v0 v1 v0 ((-1 : Int32) - x8) M7
  ) else
  f_LRule_draw_158 O f v0 v1 v0 (0 : Int32) M1
set_option maxRecDepth 20000 in
theorem k_f_LRule_draw_79 (O : Nat → Option va_E) (f d : Nat) (v0 : Nat) (v1 : Nat) (s0 : Nat) (s1 : Int32) (M : xM) : xZ oU O (d + 2) 17 79 [(0, .ref v0), (1, .ref v1)] [.int s1, .ref s0] M (f_LRule_draw_79 O f v0 v1 s0 s1 M) := by
  unfold f_LRule_draw_79
  refine xZ.k_pI (me := xm17) hP_17 rfl (fun M1 => ?_)
  refine xZ.adv (me := xm17) hP_17 2 (pc' := 84) (lv' := [(0, .ref v0), (1, .ref v1)]) (st' := [.ref v0, .ref v0]) rfl ?_
  refine xZ.k_gI (me := xm17) hP_17 rfl (fun x1 => ?_)
  refine xZ.adv (me := xm17) hP_17 1 (pc' := 88) (lv' := [(0, .ref v0), (1, .ref v1)]) (st' := [.int (3 : Int32), .int x1, .ref v0]) rfl ?_
  refine xZ.ic_ne (me := xm17) hP_17 rfl (fun h1 => ?_) (fun h1 => ?_)
  · skip
    refine xZ.adv (me := xm17) hP_17 2 (pc' := 93) (lv' := [(0, .ref v0), (1, .ref v1)]) (st' := [.int (3 : Int32), .ref v1, .ref v0]) rfl ?_
    refine xZ.callv (κ := oI) (av := [.int (3 : Int32)]) (rest := [.ref v0]) (st' := fun x2 => [.int x2, .ref v0]) (k0 := v1) (me := xm17) hP_17 rfl (Or.inl rfl) ⟨rfl, by decide⟩ rfl rfl (Nat.le_of_ble_eq_true rfl) (by decide) hP_18 (Nat.le_of_ble_eq_true rfl) (fun _ => rfl) (k_f_LDraw_is O f (d + 0) v1 (3 : Int32) M1) (fun x2 M2 => ?_)
    refine xZ.if_eq (me := xm17) hP_17 rfl (fun h2 => ?_) (fun h2 => ?_)
    · skip
      refine xZ.adv (me := xm17) hP_17 3 (pc' := 114) (lv' := [(0, .ref v0), (1, .ref v1)]) (st' := [.int (31 : Int32), .ref v1, .int (1 : Int32), .ref v0]) rfl ?_
      refine xZ.callv (κ := oI) (av := [.int (31 : Int32)]) (rest := [.int (1 : Int32), .ref v0]) (st' := fun x3 => [.int x3, .int (1 : Int32), .ref v0]) (k0 := v1) (me := xm17) hP_17 rfl (Or.inl rfl) ⟨rfl, by decide⟩ rfl rfl (Nat.le_of_ble_eq_true rfl) (by decide) hP_12 (Nat.le_of_ble_eq_true rfl) (fun _ => rfl) (k_f_LDraw_n O f (d + 1) v1 (31 : Int32) M2) (fun x3 M3 => ?_)
      refine xZ.adv (me := xm17) hP_17 2 (pc' := 158) (lv' := [(0, .ref v0), (1, .ref v1)]) (st' := [.int ((1 : Int32) + x3), .ref v0]) rfl ?_
      exact (k_f_LRule_draw_158 O f d v0 v1 v0 ((1 : Int32) + x3) M3)
    · skip
      refine xZ.adv (me := xm17) hP_17 3 (pc' := 103) (lv' := [(0, .ref v0), (1, .ref v1)]) (st' := [.int (31 : Int32), .ref v1, .int (-1 : Int32), .ref v0]) rfl ?_
      refine xZ.callv (κ := oI) (av := [.int (31 : Int32)]) (rest := [.int (-1 : Int32), .ref v0]) (st' := fun x4 => [.int x4, .int (-1 : Int32), .ref v0]) (k0 := v1) (me := xm17) hP_17 rfl (Or.inl rfl) ⟨rfl, by decide⟩ rfl rfl (Nat.le_of_ble_eq_true rfl) (by decide) hP_12 (Nat.le_of_ble_eq_true rfl) (fun _ => rfl) (k_f_LDraw_n O f (d + 1) v1 (31 : Int32) M2) (fun x4 M4 => ?_)
      refine xZ.adv (me := xm17) hP_17 2 (pc' := 158) (lv' := [(0, .ref v0), (1, .ref v1)]) (st' := [.int ((-1 : Int32) - x4), .ref v0]) rfl ?_
      exact (k_f_LRule_draw_158 O f d v0 v1 v0 ((-1 : Int32) - x4) M4)
  · skip
    refine xZ.adv (me := xm17) hP_17 1 (pc' := 122) (lv' := [(0, .ref v0), (1, .ref v1)]) (st' := [.ref v0, .ref v0]) rfl ?_
    refine xZ.k_gI (me := xm17) hP_17 rfl (fun x5 => ?_)
    refine xZ.adv (me := xm17) hP_17 1 (pc' := 126) (lv' := [(0, .ref v0), (1, .ref v1)]) (st' := [.int (4 : Int32), .int x5, .ref v0]) rfl ?_
    refine xZ.ic_ne (me := xm17) hP_17 rfl (fun h3 => ?_) (fun h3 => ?_)
    · skip
      refine xZ.adv (me := xm17) hP_17 2 (pc' := 131) (lv' := [(0, .ref v0), (1, .ref v1)]) (st' := [.int (3 : Int32), .ref v1, .ref v0]) rfl ?_
      refine xZ.callv (κ := oI) (av := [.int (3 : Int32)]) (rest := [.ref v0]) (st' := fun x6 => [.int x6, .ref v0]) (k0 := v1) (me := xm17) hP_17 rfl (Or.inl rfl) ⟨rfl, by decide⟩ rfl rfl (Nat.le_of_ble_eq_true rfl) (by decide) hP_18 (Nat.le_of_ble_eq_true rfl) (fun _ => rfl) (k_f_LDraw_is O f (d + 0) v1 (3 : Int32) M1) (fun x6 M5 => ?_)
      refine xZ.if_eq (me := xm17) hP_17 rfl (fun h4 => ?_) (fun h4 => ?_)
      · skip
        refine xZ.adv (me := xm17) hP_17 3 (pc' := 150) (lv' := [(0, .ref v0), (1, .ref v1)]) (st' := [.int (5 : Int32), .ref v1, .int (1 : Int32), .ref v0]) rfl ?_
        refine xZ.callv (κ := oI) (av := [.int (5 : Int32)]) (rest := [.int (1 : Int32), .ref v0]) (st' := fun x7 => [.int x7, .int (1 : Int32), .ref v0]) (k0 := v1) (me := xm17) hP_17 rfl (Or.inl rfl) ⟨rfl, by decide⟩ rfl rfl (Nat.le_of_ble_eq_true rfl) (by decide) hP_12 (Nat.le_of_ble_eq_true rfl) (fun _ => rfl) (k_f_LDraw_n O f (d + 1) v1 (5 : Int32) M5) (fun x7 M6 => ?_)
        refine xZ.adv (me := xm17) hP_17 2 (pc' := 158) (lv' := [(0, .ref v0), (1, .ref v1)]) (st' := [.int ((1 : Int32) + x7), .ref v0]) rfl ?_
        exact (k_f_LRule_draw_158 O f d v0 v1 v0 ((1 : Int32) + x7) M6)
      · skip
        refine xZ.adv (me := xm17) hP_17 3 (pc' := 140) (lv' := [(0, .ref v0), (1, .ref v1)]) (st' := [.int (5 : Int32), .ref v1, .int (-1 : Int32), .ref v0]) rfl ?_
        refine xZ.callv (κ := oI) (av := [.int (5 : Int32)]) (rest := [.int (-1 : Int32), .ref v0]) (st' := fun x8 => [.int x8, .int (-1 : Int32), .ref v0]) (k0 := v1) (me := xm17) hP_17 rfl (Or.inl rfl) ⟨rfl, by decide⟩ rfl rfl (Nat.le_of_ble_eq_true rfl) (by decide) hP_12 (Nat.le_of_ble_eq_true rfl) (fun _ => rfl) (k_f_LDraw_n O f (d + 1) v1 (5 : Int32) M5) (fun x8 M7 => ?_)
        refine xZ.adv (me := xm17) hP_17 2 (pc' := 158) (lv' := [(0, .ref v0), (1, .ref v1)]) (st' := [.int ((-1 : Int32) - x8), .ref v0]) rfl ?_
        exact (k_f_LRule_draw_158 O f d v0 v1 v0 ((-1 : Int32) - x8) M7)
    · skip
      refine xZ.adv (me := xm17) hP_17 1 (pc' := 158) (lv' := [(0, .ref v0), (1, .ref v1)]) (st' := [.int (0 : Int32), .ref v0]) rfl ?_
      exact (k_f_LRule_draw_158 O f d v0 v1 v0 (0 : Int32) M1)
def f_LRule_draw_67 (O : Nat → Option va_E) (f : Nat) (v0 : Nat) (v1 : Nat) (s0 : Nat) (M : xM) : Option (Unit × xM) :=
  (isO O M v1 15).bind fun _ =>
  xcl (f_LDraw_n O f v1 (127 : Int32) M) fun x1 M1 =>
  f_LRule_draw_79 O f v0 v1 s0 ((1 : Int32) + x1) M1
set_option maxRecDepth 20000 in
theorem k_f_LRule_draw_67 (O : Nat → Option va_E) (f d : Nat) (v0 : Nat) (v1 : Nat) (s0 : Nat) (M : xM) : xZ oU O (d + 2) 17 67 [(0, .ref v0), (1, .ref v1)] [.ref s0] M (f_LRule_draw_67 O f v0 v1 s0 M) := by
  unfold f_LRule_draw_67
  refine xZ.adv (me := xm17) hP_17 3 (pc' := 71) (lv' := [(0, .ref v0), (1, .ref v1)]) (st' := [.int (127 : Int32), .ref v1, .int (1 : Int32), .ref s0]) rfl ?_
  refine xZ.callv (κ := oI) (av := [.int (127 : Int32)]) (rest := [.int (1 : Int32), .ref s0]) (st' := fun x1 => [.int x1, .int (1 : Int32), .ref s0]) (k0 := v1) (me := xm17) hP_17 rfl (Or.inl rfl) ⟨rfl, by decide⟩ rfl rfl (Nat.le_of_ble_eq_true rfl) (by decide) hP_12 (Nat.le_of_ble_eq_true rfl) (fun _ => rfl) (k_f_LDraw_n O f (d + 1) v1 (127 : Int32) M) (fun x1 M1 => ?_)
  refine xZ.adv (me := xm17) hP_17 2 (pc' := 79) (lv' := [(0, .ref v0), (1, .ref v1)]) (st' := [.int ((1 : Int32) + x1), .ref s0]) rfl ?_
  exact (k_f_LRule_draw_79 O f d v0 v1 s0 ((1 : Int32) + x1) M1)
def f_LRule_draw_47 (O : Nat → Option va_E) (f : Nat) (v0 : Nat) (v1 : Nat) (s0 : Nat) (s1 : Int32) (M : xM) : Option (Unit × xM) :=
  (pI M s0 16 2 s1).bind fun M1 =>
  (gI O M1 v0 16 1).bind fun x1 =>
  if x1 = (2 : Int32) then (
    f_LRule_draw_67 O f v0 v1 v0 M1
  ) else
  (gI O M1 v0 16 1).bind fun x2 =>
  if x2 = (4 : Int32) then (
    f_LRule_draw_67 O f v0 v1 v0 M1
  ) else
  f_LRule_draw_79 O f v0 v1 v0 (0 : Int32) M1
set_option maxRecDepth 20000 in
theorem k_f_LRule_draw_47 (O : Nat → Option va_E) (f d : Nat) (v0 : Nat) (v1 : Nat) (s0 : Nat) (s1 : Int32) (M : xM) : xZ oU O (d + 2) 17 47 [(0, .ref v0), (1, .ref v1)] [.int s1, .ref s0] M (f_LRule_draw_47 O f v0 v1 s0 s1 M) := by
  unfold f_LRule_draw_47
  refine xZ.k_pI (me := xm17) hP_17 rfl (fun M1 => ?_)
  refine xZ.adv (me := xm17) hP_17 2 (pc' := 52) (lv' := [(0, .ref v0), (1, .ref v1)]) (st' := [.ref v0, .ref v0]) rfl ?_
  refine xZ.k_gI (me := xm17) hP_17 rfl (fun x1 => ?_)
  refine xZ.adv (me := xm17) hP_17 1 (pc' := 56) (lv' := [(0, .ref v0), (1, .ref v1)]) (st' := [.int (2 : Int32), .int x1, .ref v0]) rfl ?_
  refine xZ.ic_eq (me := xm17) hP_17 rfl (fun h1 => ?_) (fun h1 => ?_)
  · skip
    exact (k_f_LRule_draw_67 O f d v0 v1 v0 M1)
  · skip
    refine xZ.adv (me := xm17) hP_17 1 (pc' := 60) (lv' := [(0, .ref v0), (1, .ref v1)]) (st' := [.ref v0, .ref v0]) rfl ?_
    refine xZ.k_gI (me := xm17) hP_17 rfl (fun x2 => ?_)
    refine xZ.adv (me := xm17) hP_17 1 (pc' := 64) (lv' := [(0, .ref v0), (1, .ref v1)]) (st' := [.int (4 : Int32), .int x2, .ref v0]) rfl ?_
    refine xZ.ic_ne (me := xm17) hP_17 rfl (fun h2 => ?_) (fun h2 => ?_)
    · skip
      exact (k_f_LRule_draw_67 O f d v0 v1 v0 M1)
    · skip
      refine xZ.adv (me := xm17) hP_17 1 (pc' := 79) (lv' := [(0, .ref v0), (1, .ref v1)]) (st' := [.int (0 : Int32), .ref v0]) rfl ?_
      exact (k_f_LRule_draw_79 O f d v0 v1 v0 (0 : Int32) M1)
def f_LRule_draw_43 (O : Nat → Option va_E) (f : Nat) (v0 : Nat) (v1 : Nat) (s0 : Nat) (s1 : Int32) (s2 : Nat) (s3 : Int32) (M : xM) : Option (Unit × xM) :=
  (isO O M s2 15).bind fun _ =>
  xcl (f_LDraw_n O f s2 s3 M) fun x1 M1 =>
  f_LRule_draw_47 O f v0 v1 s0 (s1 + x1) M1
set_option maxRecDepth 20000 in
theorem k_f_LRule_draw_43 (O : Nat → Option va_E) (f d : Nat) (v0 : Nat) (v1 : Nat) (s0 : Nat) (s1 : Int32) (s2 : Nat) (s3 : Int32) (M : xM) : xZ oU O (d + 2) 17 43 [(0, .ref v0), (1, .ref v1)] [.int s3, .ref s2, .int s1, .ref s0] M (f_LRule_draw_43 O f v0 v1 s0 s1 s2 s3 M) := by
  unfold f_LRule_draw_43
  refine xZ.callv (κ := oI) (av := [.int s3]) (rest := [.int s1, .ref s0]) (st' := fun x1 => [.int x1, .int s1, .ref s0]) (k0 := s2) (me := xm17) hP_17 rfl (Or.inl rfl) ⟨rfl, by decide⟩ rfl rfl (Nat.le_of_ble_eq_true rfl) (by decide) hP_12 (Nat.le_of_ble_eq_true rfl) (fun _ => rfl) (k_f_LDraw_n O f (d + 1) s2 s3 M) (fun x1 M1 => ?_)
  refine xZ.adv (me := xm17) hP_17 1 (pc' := 47) (lv' := [(0, .ref v0), (1, .ref v1)]) (st' := [.int (s1 + x1), .ref s0]) rfl ?_
  exact (k_f_LRule_draw_47 O f d v0 v1 s0 (s1 + x1) M1)
def f_LRule_draw (O : Nat → Option va_E) (f : Nat) (v0 : Nat) (v1 : Nat) (v2 : Int32) (M : xM) : Option (Unit × xM) :=
  (pI M v0 16 0 v2).bind fun M1 =>
  (isO O M1 v1 15).bind fun _ =>
  xcl (f_LDraw_n O f v1 (6 : Int32) M1) fun x1 M2 =>
  (pI M2 v0 16 1 x1).bind fun M3 =>
  (gI O M3 v0 16 1).bind fun x2 =>
  if x2 = 0 then (
    f_LRule_draw_47 O f v0 v1 v0 (0 : Int32) M3
  ) else
  (isO O M3 v1 15).bind fun _ =>
  xcl (f_LDraw_is O f v1 (4 : Int32) M3) fun x3 M4 =>
  if x3 = 0 then (
    f_LRule_draw_43 O f v0 v1 v0 (1 : Int32) v1 (3 : Int32) M4
  ) else
  f_LRule_draw_43 O f v0 v1 v0 (1 : Int32) v1 (20 : Int32) M4
set_option maxRecDepth 20000 in
theorem k_f_LRule_draw (O : Nat → Option va_E) (f d : Nat) (v0 : Nat) (v1 : Nat) (v2 : Int32) (M : xM) : xZ oU O (d + 2) 17 0 [(0, .ref v0), (1, .ref v1), (2, .int v2)] [] M (f_LRule_draw O f v0 v1 v2 M) := by
  unfold f_LRule_draw
  refine xZ.adv (me := xm17) hP_17 2 (pc' := 2) (lv' := [(0, .ref v0), (1, .ref v1), (2, .int v2)]) (st' := [.int v2, .ref v0]) rfl ?_
  refine xZ.k_pI (me := xm17) hP_17 rfl (fun M1 => ?_)
  refine xZ.adv (me := xm17) hP_17 3 (pc' := 9) (lv' := [(0, .ref v0), (1, .ref v1), (2, .int v2)]) (st' := [.int (6 : Int32), .ref v1, .ref v0]) rfl ?_
  refine xZ.callv (κ := oI) (av := [.int (6 : Int32)]) (rest := [.ref v0]) (st' := fun x1 => [.int x1, .ref v0]) (k0 := v1) (me := xm17) hP_17 rfl (Or.inl rfl) ⟨rfl, by decide⟩ rfl rfl (Nat.le_of_ble_eq_true rfl) (by decide) hP_12 (Nat.le_of_ble_eq_true rfl) (fun _ => rfl) (k_f_LDraw_n O f (d + 1) v1 (6 : Int32) M1) (fun x1 M2 => ?_)
  refine xZ.k_pI (me := xm17) hP_17 rfl (fun M3 => ?_)
  refine xZ.adv (me := xm17) hP_17 2 (pc' := 17) (lv' := [(0, .ref v0), (1, .ref v1), (2, .int v2)]) (st' := [.ref v0, .ref v0]) rfl ?_
  refine xZ.k_gI (me := xm17) hP_17 rfl (fun x2 => ?_)
  refine xZ.if_ne (me := xm17) hP_17 rfl (fun h1 => ?_) (fun h1 => ?_)
  · skip
    refine xZ.adv (me := xm17) hP_17 2 (pc' := 47) (lv' := [(0, .ref v0), (1, .ref v1), (2, .int v2)]) (st' := [.int (0 : Int32), .ref v0]) rfl ?_
    exact xZ.sub (xsc (.head _) (xsc (.tail _ (.head _)) xsn)) (show ([0, 1, 2] : List Nat).Nodup from by decide) (k_f_LRule_draw_47 O f d v0 v1 v0 (0 : Int32) M3)
  · skip
    refine xZ.adv (me := xm17) hP_17 4 (pc' := 31) (lv' := [(0, .ref v0), (1, .ref v1), (2, .int v2)]) (st' := [.int (4 : Int32), .ref v1, .ref v1, .int (1 : Int32), .ref v0]) rfl ?_
    refine xZ.callv (κ := oI) (av := [.int (4 : Int32)]) (rest := [.ref v1, .int (1 : Int32), .ref v0]) (st' := fun x3 => [.int x3, .ref v1, .int (1 : Int32), .ref v0]) (k0 := v1) (me := xm17) hP_17 rfl (Or.inl rfl) ⟨rfl, by decide⟩ rfl rfl (Nat.le_of_ble_eq_true rfl) (by decide) hP_18 (Nat.le_of_ble_eq_true rfl) (fun _ => rfl) (k_f_LDraw_is O f (d + 0) v1 (4 : Int32) M3) (fun x3 M4 => ?_)
    refine xZ.if_eq (me := xm17) hP_17 rfl (fun h2 => ?_) (fun h2 => ?_)
    · skip
      refine xZ.adv (me := xm17) hP_17 1 (pc' := 43) (lv' := [(0, .ref v0), (1, .ref v1), (2, .int v2)]) (st' := [.int (3 : Int32), .ref v1, .int (1 : Int32), .ref v0]) rfl ?_
      exact xZ.sub (xsc (.head _) (xsc (.tail _ (.head _)) xsn)) (show ([0, 1, 2] : List Nat).Nodup from by decide) (k_f_LRule_draw_43 O f d v0 v1 v0 (1 : Int32) v1 (3 : Int32) M4)
    · skip
      refine xZ.adv (me := xm17) hP_17 2 (pc' := 43) (lv' := [(0, .ref v0), (1, .ref v1), (2, .int v2)]) (st' := [.int (20 : Int32), .ref v1, .int (1 : Int32), .ref v0]) rfl ?_
      exact xZ.sub (xsc (.head _) (xsc (.tail _ (.head _)) xsn)) (show ([0, 1, 2] : List Nat).Nodup from by decide) (k_f_LRule_draw_43 O f d v0 v1 v0 (1 : Int32) v1 (20 : Int32) M4)
def f_Hall_anyZone_22 (O : Nat → Option va_E) (f : Nat) (s0 : Nat) (s1 : Int32) (M : xM) : Option (Nat × xM) :=
  (aR O M s0 s1).bind fun x1 =>
  some (x1, M)
set_option maxRecDepth 20000 in
theorem k_f_Hall_anyZone_22 (O : Nat → Option va_E) (f d : Nat) (s0 : Nat) (s1 : Int32) (M : xM) : xZ oR O (d + 0) 21 22 [] [.int s1, .ref s0] M (f_Hall_anyZone_22 O f s0 s1 M) := by
  unfold f_Hall_anyZone_22
  refine xZ.k_aR (me := xm21) hP_21 rfl (fun x1 => ?_)
  exact xZ.retr (me := xm21) hP_21 rfl rfl rfl
def f_Hall_anyZone_21 (O : Nat → Option va_E) (f : Nat) (s0 : Nat) (M : xM) : Option (Nat × xM) :=
  f_Hall_anyZone_22 O f s0 (0 : Int32) M
set_option maxRecDepth 20000 in
theorem k_f_Hall_anyZone_21 (O : Nat → Option va_E) (f d : Nat) (s0 : Nat) (M : xM) : xZ oR O (d + 0) 21 21 [] [.ref s0] M (f_Hall_anyZone_21 O f s0 M) := by
  unfold f_Hall_anyZone_21
  refine xZ.adv (me := xm21) hP_21 1 (pc' := 22) (lv' := []) (st' := [.int (0 : Int32), .ref s0]) rfl ?_
  exact (k_f_Hall_anyZone_22 O f d s0 (0 : Int32) M)
def f_Hall_anyZone (O : Nat → Option va_E) (f : Nat) (v0 : Nat) (v1 : Int32) (M : xM) : Option (Nat × xM) :=
  (gR O M v0 4 0).bind fun x1 =>
  if v1 < 0 then (
    f_Hall_anyZone_21 O f x1 M
  ) else
  (gR O M v0 4 0).bind fun x2 =>
  (aN O M x2).bind fun x3 =>
  if x3 ≤ v1 then (
    f_Hall_anyZone_21 O f x1 M
  ) else
  f_Hall_anyZone_22 O f x1 v1 M
set_option maxRecDepth 20000 in
theorem k_f_Hall_anyZone (O : Nat → Option va_E) (f d : Nat) (v0 : Nat) (v1 : Int32) (M : xM) : xZ oR O (d + 0) 21 0 [(0, .ref v0), (1, .int v1)] [] M (f_Hall_anyZone O f v0 v1 M) := by
  unfold f_Hall_anyZone
  refine xZ.adv (me := xm21) hP_21 1 (pc' := 1) (lv' := [(0, .ref v0), (1, .int v1)]) (st' := [.ref v0]) rfl ?_
  refine xZ.k_gR (me := xm21) hP_21 rfl (fun x1 => ?_)
  refine xZ.adv (me := xm21) hP_21 1 (pc' := 5) (lv' := [(0, .ref v0), (1, .int v1)]) (st' := [.int v1, .ref x1]) rfl ?_
  refine xZ.if_lt (me := xm21) hP_21 rfl (fun h1 => ?_) (fun h1 => ?_)
  · skip
    exact xZ.sub xsn (show ([0, 1] : List Nat).Nodup from by decide) (k_f_Hall_anyZone_21 O f d x1 M)
  · skip
    refine xZ.adv (me := xm21) hP_21 2 (pc' := 10) (lv' := [(0, .ref v0), (1, .int v1)]) (st' := [.ref v0, .int v1, .ref x1]) rfl ?_
    refine xZ.k_gR (me := xm21) hP_21 rfl (fun x2 => ?_)
    refine xZ.k_aN (me := xm21) hP_21 rfl (fun x3 => ?_)
    refine xZ.ic_ge (me := xm21) hP_21 rfl (fun h2 => ?_) (fun h2 => ?_)
    · skip
      exact xZ.sub xsn (show ([0, 1] : List Nat).Nodup from by decide) (k_f_Hall_anyZone_21 O f d x1 M)
    · skip
      refine xZ.adv (me := xm21) hP_21 2 (pc' := 22) (lv' := [(0, .ref v0), (1, .int v1)]) (st' := [.int v1, .ref x1]) rfl ?_
      exact xZ.sub xsn (show ([0, 1] : List Nat).Nodup from by decide) (k_f_Hall_anyZone_22 O f d x1 v1 M)
def f_Calendarhall_zoneNumbered (O : Nat → Option va_E) (f : Nat) (v0 : Nat) (v1 : Int32) (M : xM) : Option (Nat × xM) :=
  if v1 < 0 then (
    none
  ) else
  if v1 < (3 : Int32) then (
    (gR O M v0 12 0).bind fun x1 =>
    (isO O M x1 4).bind fun _ =>
    xcl (f_Hall_anyZone O f x1 v1 M) fun x2 M1 =>
    some (x2, M1)
  ) else
  none
set_option maxRecDepth 20000 in
theorem k_f_Calendarhall_zoneNumbered (O : Nat → Option va_E) (f d : Nat) (v0 : Nat) (v1 : Int32) (M : xM) : xZ oR O (d + 1) 20 0 [(0, .ref v0), (1, .int v1)] [] M (f_Calendarhall_zoneNumbered O f v0 v1 M) := by
  unfold f_Calendarhall_zoneNumbered
  refine xZ.adv (me := xm20) hP_20 1 (pc' := 1) (lv' := [(0, .ref v0), (1, .int v1)]) (st' := [.int v1]) rfl ?_
  refine xZ.if_lt (me := xm20) hP_20 rfl (fun h1 => ?_) (fun h1 => ?_)
  · skip
    exact xZ.no
  · skip
    refine xZ.adv (me := xm20) hP_20 2 (pc' := 6) (lv' := [(0, .ref v0), (1, .int v1)]) (st' := [.int (3 : Int32), .int v1]) rfl ?_
    refine xZ.ic_lt (me := xm20) hP_20 rfl (fun h2 => ?_) (fun h2 => ?_)
    · skip
      refine xZ.adv (me := xm20) hP_20 1 (pc' := 18) (lv' := [(0, .ref v0), (1, .int v1)]) (st' := [.ref v0]) rfl ?_
      refine xZ.k_gR (me := xm20) hP_20 rfl (fun x1 => ?_)
      refine xZ.adv (me := xm20) hP_20 1 (pc' := 22) (lv' := [(0, .ref v0), (1, .int v1)]) (st' := [.int v1, .ref x1]) rfl ?_
      refine xZ.callv (κ := oR) (av := [.int v1]) (rest := []) (st' := fun x2 => [.ref x2]) (k0 := x1) (me := xm20) hP_20 rfl (Or.inl rfl) ⟨rfl, by decide⟩ rfl rfl (Nat.le_of_ble_eq_true rfl) (by decide) hP_21 (Nat.le_of_ble_eq_true rfl) (fun _ => rfl) (k_f_Hall_anyZone O f (d + 0) x1 v1 M) (fun x2 M1 => ?_)
      exact xZ.retr (me := xm20) hP_20 rfl rfl rfl
    · skip
      exact xZ.no
def f_Calendarhall_needRange (O : Nat → Option va_E) (f : Nat) (v0 : Int32) (v1 : Int32) (v2 : Int32) (M : xM) : Option (Unit × xM) :=
  if v0 < v1 then (
    none
  ) else
  if v0 ≤ v2 then (
    some ((), M)
  ) else
  none
set_option maxRecDepth 20000 in
theorem k_f_Calendarhall_needRange (O : Nat → Option va_E) (f d : Nat) (v0 : Int32) (v1 : Int32) (v2 : Int32) (M : xM) : xZ oU O (d + 0) 22 0 [(0, .int v0), (1, .int v1), (2, .int v2)] [] M (f_Calendarhall_needRange O f v0 v1 v2 M) := by
  unfold f_Calendarhall_needRange
  refine xZ.adv (me := xm22) hP_22 2 (pc' := 2) (lv' := [(0, .int v0), (1, .int v1), (2, .int v2)]) (st' := [.int v1, .int v0]) rfl ?_
  refine xZ.ic_lt (me := xm22) hP_22 rfl (fun h1 => ?_) (fun h1 => ?_)
  · skip
    exact xZ.no
  · skip
    refine xZ.adv (me := xm22) hP_22 2 (pc' := 7) (lv' := [(0, .int v0), (1, .int v1), (2, .int v2)]) (st' := [.int v2, .int v0]) rfl ?_
    refine xZ.ic_le (me := xm22) hP_22 rfl (fun h2 => ?_) (fun h2 => ?_)
    · skip
      exact xZ.retu (me := xm22) hP_22 rfl rfl
    · skip
      exact xZ.no
def f_Zone_copyFrom (O : Nat → Option va_E) (f : Nat) (v0 : Nat) (v1 : Nat) (M : xM) : Option (Unit × xM) :=
  (gI O M v1 11 0).bind fun x1 =>
  (pI M v0 11 0 x1).bind fun M1 =>
  (gI O M1 v1 11 1).bind fun x2 =>
  (pI M1 v0 11 1 x2).bind fun M2 =>
  (gR O M2 v1 11 2).bind fun x3 =>
  (gR O M2 v0 11 2).bind fun x4 =>
  (gR O M2 v0 11 2).bind fun x5 =>
  (aN O M2 x5).bind fun x6 =>
  (cpX M2 x3 (0 : Int32) x4 (0 : Int32) x6).bind fun M3 =>
  (gR O M3 v1 11 3).bind fun x7 =>
  (gR O M3 v0 11 3).bind fun x8 =>
  (gR O M3 v0 11 3).bind fun x9 =>
  (aN O M3 x9).bind fun x10 =>
  (cpX M3 x7 (0 : Int32) x8 (0 : Int32) x10).bind fun M4 =>
  some ((), M4)
set_option maxRecDepth 20000 in
theorem k_f_Zone_copyFrom (O : Nat → Option va_E) (f d : Nat) (v0 : Nat) (v1 : Nat) (M : xM) : xZ oU O (d + 0) 25 0 [(0, .ref v0), (1, .ref v1)] [] M (f_Zone_copyFrom O f v0 v1 M) := by
  unfold f_Zone_copyFrom
  refine xZ.adv (me := xm25) hP_25 2 (pc' := 2) (lv' := [(0, .ref v0), (1, .ref v1)]) (st' := [.ref v1, .ref v0]) rfl ?_
  refine xZ.k_gI (me := xm25) hP_25 rfl (fun x1 => ?_)
  refine xZ.k_pI (me := xm25) hP_25 rfl (fun M1 => ?_)
  refine xZ.adv (me := xm25) hP_25 2 (pc' := 10) (lv' := [(0, .ref v0), (1, .ref v1)]) (st' := [.ref v1, .ref v0]) rfl ?_
  refine xZ.k_gI (me := xm25) hP_25 rfl (fun x2 => ?_)
  refine xZ.k_pI (me := xm25) hP_25 rfl (fun M2 => ?_)
  refine xZ.adv (me := xm25) hP_25 1 (pc' := 17) (lv' := [(0, .ref v0), (1, .ref v1)]) (st' := [.ref v1]) rfl ?_
  refine xZ.k_gR (me := xm25) hP_25 rfl (fun x3 => ?_)
  refine xZ.adv (me := xm25) hP_25 2 (pc' := 22) (lv' := [(0, .ref v0), (1, .ref v1)]) (st' := [.ref v0, .int (0 : Int32), .ref x3]) rfl ?_
  refine xZ.k_gR (me := xm25) hP_25 rfl (fun x4 => ?_)
  refine xZ.adv (me := xm25) hP_25 2 (pc' := 27) (lv' := [(0, .ref v0), (1, .ref v1)]) (st' := [.ref v0, .int (0 : Int32), .ref x4, .int (0 : Int32), .ref x3]) rfl ?_
  refine xZ.k_gR (me := xm25) hP_25 rfl (fun x5 => ?_)
  refine xZ.k_aN (me := xm25) hP_25 rfl (fun x6 => ?_)
  refine xZ.k_cpX (me := xm25) hP_25 rfl (Nat.le_of_ble_eq_true rfl) (fun M3 => ?_)
  refine xZ.adv (me := xm25) hP_25 1 (pc' := 35) (lv' := [(0, .ref v0), (1, .ref v1)]) (st' := [.ref v1]) rfl ?_
  refine xZ.k_gR (me := xm25) hP_25 rfl (fun x7 => ?_)
  refine xZ.adv (me := xm25) hP_25 2 (pc' := 40) (lv' := [(0, .ref v0), (1, .ref v1)]) (st' := [.ref v0, .int (0 : Int32), .ref x7]) rfl ?_
  refine xZ.k_gR (me := xm25) hP_25 rfl (fun x8 => ?_)
  refine xZ.adv (me := xm25) hP_25 2 (pc' := 45) (lv' := [(0, .ref v0), (1, .ref v1)]) (st' := [.ref v0, .int (0 : Int32), .ref x8, .int (0 : Int32), .ref x7]) rfl ?_
  refine xZ.k_gR (me := xm25) hP_25 rfl (fun x9 => ?_)
  refine xZ.k_aN (me := xm25) hP_25 rfl (fun x10 => ?_)
  refine xZ.k_cpX (me := xm25) hP_25 rfl (Nat.le_of_ble_eq_true rfl) (fun M4 => ?_)
  exact xZ.retu (me := xm25) hP_25 rfl rfl
def f_Hall_anyPerson_22 (O : Nat → Option va_E) (f : Nat) (s0 : Nat) (s1 : Int32) (M : xM) : Option (Nat × xM) :=
  (aR O M s0 s1).bind fun x1 =>
  some (x1, M)
set_option maxRecDepth 20000 in
theorem k_f_Hall_anyPerson_22 (O : Nat → Option va_E) (f d : Nat) (s0 : Nat) (s1 : Int32) (M : xM) : xZ oR O (d + 0) 26 22 [] [.int s1, .ref s0] M (f_Hall_anyPerson_22 O f s0 s1 M) := by
  unfold f_Hall_anyPerson_22
  refine xZ.k_aR (me := xm26) hP_26 rfl (fun x1 => ?_)
  exact xZ.retr (me := xm26) hP_26 rfl rfl rfl
def f_Hall_anyPerson_21 (O : Nat → Option va_E) (f : Nat) (s0 : Nat) (M : xM) : Option (Nat × xM) :=
  f_Hall_anyPerson_22 O f s0 (0 : Int32) M
set_option maxRecDepth 20000 in
theorem k_f_Hall_anyPerson_21 (O : Nat → Option va_E) (f d : Nat) (s0 : Nat) (M : xM) : xZ oR O (d + 0) 26 21 [] [.ref s0] M (f_Hall_anyPerson_21 O f s0 M) := by
  unfold f_Hall_anyPerson_21
  refine xZ.adv (me := xm26) hP_26 1 (pc' := 22) (lv' := []) (st' := [.int (0 : Int32), .ref s0]) rfl ?_
  exact (k_f_Hall_anyPerson_22 O f d s0 (0 : Int32) M)
def f_Hall_anyPerson (O : Nat → Option va_E) (f : Nat) (v0 : Nat) (v1 : Int32) (M : xM) : Option (Nat × xM) :=
  (gR O M v0 4 1).bind fun x1 =>
  if v1 < 0 then (
    f_Hall_anyPerson_21 O f x1 M
  ) else
  (gR O M v0 4 1).bind fun x2 =>
  (aN O M x2).bind fun x3 =>
  if x3 ≤ v1 then (
    f_Hall_anyPerson_21 O f x1 M
  ) else
  f_Hall_anyPerson_22 O f x1 v1 M
set_option maxRecDepth 20000 in
theorem k_f_Hall_anyPerson (O : Nat → Option va_E) (f d : Nat) (v0 : Nat) (v1 : Int32) (M : xM) : xZ oR O (d + 0) 26 0 [(0, .ref v0), (1, .int v1)] [] M (f_Hall_anyPerson O f v0 v1 M) := by
  unfold f_Hall_anyPerson
  refine xZ.adv (me := xm26) hP_26 1 (pc' := 1) (lv' := [(0, .ref v0), (1, .int v1)]) (st' := [.ref v0]) rfl ?_
  refine xZ.k_gR (me := xm26) hP_26 rfl (fun x1 => ?_)
  refine xZ.adv (me := xm26) hP_26 1 (pc' := 5) (lv' := [(0, .ref v0), (1, .int v1)]) (st' := [.int v1, .ref x1]) rfl ?_
  refine xZ.if_lt (me := xm26) hP_26 rfl (fun h1 => ?_) (fun h1 => ?_)
  · skip
    exact xZ.sub xsn (show ([0, 1] : List Nat).Nodup from by decide) (k_f_Hall_anyPerson_21 O f d x1 M)
  · skip
    refine xZ.adv (me := xm26) hP_26 2 (pc' := 10) (lv' := [(0, .ref v0), (1, .int v1)]) (st' := [.ref v0, .int v1, .ref x1]) rfl ?_
    refine xZ.k_gR (me := xm26) hP_26 rfl (fun x2 => ?_)
    refine xZ.k_aN (me := xm26) hP_26 rfl (fun x3 => ?_)
    refine xZ.ic_ge (me := xm26) hP_26 rfl (fun h2 => ?_) (fun h2 => ?_)
    · skip
      exact xZ.sub xsn (show ([0, 1] : List Nat).Nodup from by decide) (k_f_Hall_anyPerson_21 O f d x1 M)
    · skip
      refine xZ.adv (me := xm26) hP_26 2 (pc' := 22) (lv' := [(0, .ref v0), (1, .int v1)]) (st' := [.int v1, .ref x1]) rfl ?_
      exact xZ.sub xsn (show ([0, 1] : List Nat).Nodup from by decide) (k_f_Hall_anyPerson_22 O f d x1 v1 M)
def f_Person_put (O : Nat → Option va_E) (f : Nat) (v0 : Nat) (v1 : Int32) (v2 : Int32) (v3 : Int32) (v4 : Int32) (M : xM) : Option (Unit × xM) :=
  (pI M v0 6 0 v1).bind fun M1 =>
  (pI M1 v0 6 1 v2).bind fun M2 =>
  (pI M2 v0 6 2 v3).bind fun M3 =>
  (pI M3 v0 6 3 v4).bind fun M4 =>
  some ((), M4)
set_option maxRecDepth 20000 in
theorem k_f_Person_put (O : Nat → Option va_E) (f d : Nat) (v0 : Nat) (v1 : Int32) (v2 : Int32) (v3 : Int32) (v4 : Int32) (M : xM) : xZ oU O (d + 0) 28 0 [(0, .ref v0), (1, .int v1), (2, .int v2), (3, .int v3), (4, .int v4)] [] M (f_Person_put O f v0 v1 v2 v3 v4 M) := by
  unfold f_Person_put
  refine xZ.adv (me := xm28) hP_28 2 (pc' := 2) (lv' := [(0, .ref v0), (1, .int v1), (2, .int v2), (3, .int v3), (4, .int v4)]) (st' := [.int v1, .ref v0]) rfl ?_
  refine xZ.k_pI (me := xm28) hP_28 rfl (fun M1 => ?_)
  refine xZ.adv (me := xm28) hP_28 2 (pc' := 7) (lv' := [(0, .ref v0), (1, .int v1), (2, .int v2), (3, .int v3), (4, .int v4)]) (st' := [.int v2, .ref v0]) rfl ?_
  refine xZ.k_pI (me := xm28) hP_28 rfl (fun M2 => ?_)
  refine xZ.adv (me := xm28) hP_28 2 (pc' := 12) (lv' := [(0, .ref v0), (1, .int v1), (2, .int v2), (3, .int v3), (4, .int v4)]) (st' := [.int v3, .ref v0]) rfl ?_
  refine xZ.k_pI (me := xm28) hP_28 rfl (fun M3 => ?_)
  refine xZ.adv (me := xm28) hP_28 2 (pc' := 18) (lv' := [(0, .ref v0), (1, .int v1), (2, .int v2), (3, .int v3), (4, .int v4)]) (st' := [.int v4, .ref v0]) rfl ?_
  refine xZ.k_pI (me := xm28) hP_28 rfl (fun M4 => ?_)
  exact xZ.retu (me := xm28) hP_28 rfl rfl
def f_Person_copyFrom (O : Nat → Option va_E) (f : Nat) (v0 : Nat) (v1 : Nat) (M : xM) : Option (Unit × xM) :=
  (gI O M v1 6 0).bind fun x1 =>
  (gI O M v1 6 1).bind fun x2 =>
  (gI O M v1 6 2).bind fun x3 =>
  (gI O M v1 6 3).bind fun x4 =>
  (isO O M v0 6).bind fun _ =>
  xcl (f_Person_put O f v0 x1 x2 x3 x4 M) fun _ M1 =>
  some ((), M1)
set_option maxRecDepth 20000 in
theorem k_f_Person_copyFrom (O : Nat → Option va_E) (f d : Nat) (v0 : Nat) (v1 : Nat) (M : xM) : xZ oU O (d + 1) 27 0 [(0, .ref v0), (1, .ref v1)] [] M (f_Person_copyFrom O f v0 v1 M) := by
  unfold f_Person_copyFrom
  refine xZ.adv (me := xm27) hP_27 2 (pc' := 2) (lv' := [(0, .ref v0), (1, .ref v1)]) (st' := [.ref v1, .ref v0]) rfl ?_
  refine xZ.k_gI (me := xm27) hP_27 rfl (fun x1 => ?_)
  refine xZ.adv (me := xm27) hP_27 1 (pc' := 6) (lv' := [(0, .ref v0), (1, .ref v1)]) (st' := [.ref v1, .int x1, .ref v0]) rfl ?_
  refine xZ.k_gI (me := xm27) hP_27 rfl (fun x2 => ?_)
  refine xZ.adv (me := xm27) hP_27 1 (pc' := 10) (lv' := [(0, .ref v0), (1, .ref v1)]) (st' := [.ref v1, .int x2, .int x1, .ref v0]) rfl ?_
  refine xZ.k_gI (me := xm27) hP_27 rfl (fun x3 => ?_)
  refine xZ.adv (me := xm27) hP_27 1 (pc' := 14) (lv' := [(0, .ref v0), (1, .ref v1)]) (st' := [.ref v1, .int x3, .int x2, .int x1, .ref v0]) rfl ?_
  refine xZ.k_gI (me := xm27) hP_27 rfl (fun x4 => ?_)
  refine xZ.callv (κ := oU) (av := [.int x1, .int x2, .int x3, .int x4]) (rest := []) (st' := fun _ => []) (k0 := v0) (me := xm27) hP_27 rfl (Or.inl rfl) ⟨rfl, by decide⟩ rfl rfl (Nat.le_of_ble_eq_true rfl) (by decide) hP_28 (Nat.le_of_ble_eq_true rfl) (fun _ => rfl) (k_f_Person_put O f (d + 0) v0 x1 x2 x3 x4 M) (fun _ M1 => ?_)
  exact xZ.retu (me := xm27) hP_27 rfl rfl
def f_Hall_anySeries_22 (O : Nat → Option va_E) (f : Nat) (s0 : Nat) (s1 : Int32) (M : xM) : Option (Nat × xM) :=
  (aR O M s0 s1).bind fun x1 =>
  some (x1, M)
set_option maxRecDepth 20000 in
theorem k_f_Hall_anySeries_22 (O : Nat → Option va_E) (f d : Nat) (s0 : Nat) (s1 : Int32) (M : xM) : xZ oR O (d + 0) 29 22 [] [.int s1, .ref s0] M (f_Hall_anySeries_22 O f s0 s1 M) := by
  unfold f_Hall_anySeries_22
  refine xZ.k_aR (me := xm29) hP_29 rfl (fun x1 => ?_)
  exact xZ.retr (me := xm29) hP_29 rfl rfl rfl
def f_Hall_anySeries_21 (O : Nat → Option va_E) (f : Nat) (s0 : Nat) (M : xM) : Option (Nat × xM) :=
  f_Hall_anySeries_22 O f s0 (0 : Int32) M
set_option maxRecDepth 20000 in
theorem k_f_Hall_anySeries_21 (O : Nat → Option va_E) (f d : Nat) (s0 : Nat) (M : xM) : xZ oR O (d + 0) 29 21 [] [.ref s0] M (f_Hall_anySeries_21 O f s0 M) := by
  unfold f_Hall_anySeries_21
  refine xZ.adv (me := xm29) hP_29 1 (pc' := 22) (lv' := []) (st' := [.int (0 : Int32), .ref s0]) rfl ?_
  exact (k_f_Hall_anySeries_22 O f d s0 (0 : Int32) M)
def f_Hall_anySeries (O : Nat → Option va_E) (f : Nat) (v0 : Nat) (v1 : Int32) (M : xM) : Option (Nat × xM) :=
  (gR O M v0 4 3).bind fun x1 =>
  if v1 < 0 then (
    f_Hall_anySeries_21 O f x1 M
  ) else
  (gR O M v0 4 3).bind fun x2 =>
  (aN O M x2).bind fun x3 =>
  if x3 ≤ v1 then (
    f_Hall_anySeries_21 O f x1 M
  ) else
  f_Hall_anySeries_22 O f x1 v1 M
set_option maxRecDepth 20000 in
theorem k_f_Hall_anySeries (O : Nat → Option va_E) (f d : Nat) (v0 : Nat) (v1 : Int32) (M : xM) : xZ oR O (d + 0) 29 0 [(0, .ref v0), (1, .int v1)] [] M (f_Hall_anySeries O f v0 v1 M) := by
  unfold f_Hall_anySeries
  refine xZ.adv (me := xm29) hP_29 1 (pc' := 1) (lv' := [(0, .ref v0), (1, .int v1)]) (st' := [.ref v0]) rfl ?_
  refine xZ.k_gR (me := xm29) hP_29 rfl (fun x1 => ?_)
  refine xZ.adv (me := xm29) hP_29 1 (pc' := 5) (lv' := [(0, .ref v0), (1, .int v1)]) (st' := [.int v1, .ref x1]) rfl ?_
  refine xZ.if_lt (me := xm29) hP_29 rfl (fun h1 => ?_) (fun h1 => ?_)
  · skip
    exact xZ.sub xsn (show ([0, 1] : List Nat).Nodup from by decide) (k_f_Hall_anySeries_21 O f d x1 M)
  · skip
    refine xZ.adv (me := xm29) hP_29 2 (pc' := 10) (lv' := [(0, .ref v0), (1, .int v1)]) (st' := [.ref v0, .int v1, .ref x1]) rfl ?_
    refine xZ.k_gR (me := xm29) hP_29 rfl (fun x2 => ?_)
    refine xZ.k_aN (me := xm29) hP_29 rfl (fun x3 => ?_)
    refine xZ.ic_ge (me := xm29) hP_29 rfl (fun h2 => ?_) (fun h2 => ?_)
    · skip
      exact xZ.sub xsn (show ([0, 1] : List Nat).Nodup from by decide) (k_f_Hall_anySeries_21 O f d x1 M)
    · skip
      refine xZ.adv (me := xm29) hP_29 2 (pc' := 22) (lv' := [(0, .ref v0), (1, .int v1)]) (st' := [.int v1, .ref x1]) rfl ?_
      exact xZ.sub xsn (show ([0, 1] : List Nat).Nodup from by decide) (k_f_Hall_anySeries_22 O f d x1 v1 M)
def f_Rule_put (O : Nat → Option va_E) (f : Nat) (v0 : Nat) (v1 : Int32) (v2 : Int32) (v3 : Int32) (v4 : Int32) (M : xM) : Option (Unit × xM) :=
  (pI M v0 9 1 v1).bind fun M1 =>
  (pI M1 v0 9 2 v2).bind fun M2 =>
  (pI M2 v0 9 3 v3).bind fun M3 =>
  (pI M3 v0 9 4 v4).bind fun M4 =>
  some ((), M4)
set_option maxRecDepth 20000 in
theorem k_f_Rule_put (O : Nat → Option va_E) (f d : Nat) (v0 : Nat) (v1 : Int32) (v2 : Int32) (v3 : Int32) (v4 : Int32) (M : xM) : xZ oU O (d + 0) 32 0 [(0, .ref v0), (1, .int v1), (2, .int v2), (3, .int v3), (4, .int v4)] [] M (f_Rule_put O f v0 v1 v2 v3 v4 M) := by
  unfold f_Rule_put
  refine xZ.adv (me := xm32) hP_32 2 (pc' := 2) (lv' := [(0, .ref v0), (1, .int v1), (2, .int v2), (3, .int v3), (4, .int v4)]) (st' := [.int v1, .ref v0]) rfl ?_
  refine xZ.k_pI (me := xm32) hP_32 rfl (fun M1 => ?_)
  refine xZ.adv (me := xm32) hP_32 2 (pc' := 7) (lv' := [(0, .ref v0), (1, .int v1), (2, .int v2), (3, .int v3), (4, .int v4)]) (st' := [.int v2, .ref v0]) rfl ?_
  refine xZ.k_pI (me := xm32) hP_32 rfl (fun M2 => ?_)
  refine xZ.adv (me := xm32) hP_32 2 (pc' := 12) (lv' := [(0, .ref v0), (1, .int v1), (2, .int v2), (3, .int v3), (4, .int v4)]) (st' := [.int v3, .ref v0]) rfl ?_
  refine xZ.k_pI (me := xm32) hP_32 rfl (fun M3 => ?_)
  refine xZ.adv (me := xm32) hP_32 2 (pc' := 18) (lv' := [(0, .ref v0), (1, .int v1), (2, .int v2), (3, .int v3), (4, .int v4)]) (st' := [.int v4, .ref v0]) rfl ?_
  refine xZ.k_pI (me := xm32) hP_32 rfl (fun M4 => ?_)
  exact xZ.retu (me := xm32) hP_32 rfl rfl
def f_Rule_putEnd (O : Nat → Option va_E) (f : Nat) (v0 : Nat) (v1 : Int32) (v2 : Int32) (M : xM) : Option (Unit × xM) :=
  (pI M v0 9 5 v1).bind fun M1 =>
  (pI M1 v0 9 6 v2).bind fun M2 =>
  some ((), M2)
set_option maxRecDepth 20000 in
theorem k_f_Rule_putEnd (O : Nat → Option va_E) (f d : Nat) (v0 : Nat) (v1 : Int32) (v2 : Int32) (M : xM) : xZ oU O (d + 0) 33 0 [(0, .ref v0), (1, .int v1), (2, .int v2)] [] M (f_Rule_putEnd O f v0 v1 v2 M) := by
  unfold f_Rule_putEnd
  refine xZ.adv (me := xm33) hP_33 2 (pc' := 2) (lv' := [(0, .ref v0), (1, .int v1), (2, .int v2)]) (st' := [.int v1, .ref v0]) rfl ?_
  refine xZ.k_pI (me := xm33) hP_33 rfl (fun M1 => ?_)
  refine xZ.adv (me := xm33) hP_33 2 (pc' := 7) (lv' := [(0, .ref v0), (1, .int v1), (2, .int v2)]) (st' := [.int v2, .ref v0]) rfl ?_
  refine xZ.k_pI (me := xm33) hP_33 rfl (fun M2 => ?_)
  exact xZ.retu (me := xm33) hP_33 rfl rfl
def f_Rule_copyFrom (O : Nat → Option va_E) (f : Nat) (v0 : Nat) (v1 : Nat) (M : xM) : Option (Unit × xM) :=
  (gI O M v1 9 1).bind fun x1 =>
  (gI O M v1 9 2).bind fun x2 =>
  (gI O M v1 9 3).bind fun x3 =>
  (gI O M v1 9 4).bind fun x4 =>
  (isO O M v0 9).bind fun _ =>
  xcl (f_Rule_put O f v0 x1 x2 x3 x4 M) fun _ M1 =>
  (gI O M1 v1 9 5).bind fun x6 =>
  (gI O M1 v1 9 6).bind fun x7 =>
  (isO O M1 v0 9).bind fun _ =>
  xcl (f_Rule_putEnd O f v0 x6 x7 M1) fun _ M2 =>
  (gI O M2 v1 9 0).bind fun x9 =>
  (pI M2 v0 9 0 x9).bind fun M3 =>
  (gI O M3 v1 9 7).bind fun x10 =>
  (pI M3 v0 9 7 x10).bind fun M4 =>
  some ((), M4)
set_option maxRecDepth 20000 in
theorem k_f_Rule_copyFrom (O : Nat → Option va_E) (f d : Nat) (v0 : Nat) (v1 : Nat) (M : xM) : xZ oU O (d + 1) 31 0 [(0, .ref v0), (1, .ref v1)] [] M (f_Rule_copyFrom O f v0 v1 M) := by
  unfold f_Rule_copyFrom
  refine xZ.adv (me := xm31) hP_31 2 (pc' := 2) (lv' := [(0, .ref v0), (1, .ref v1)]) (st' := [.ref v1, .ref v0]) rfl ?_
  refine xZ.k_gI (me := xm31) hP_31 rfl (fun x1 => ?_)
  refine xZ.adv (me := xm31) hP_31 1 (pc' := 6) (lv' := [(0, .ref v0), (1, .ref v1)]) (st' := [.ref v1, .int x1, .ref v0]) rfl ?_
  refine xZ.k_gI (me := xm31) hP_31 rfl (fun x2 => ?_)
  refine xZ.adv (me := xm31) hP_31 1 (pc' := 10) (lv' := [(0, .ref v0), (1, .ref v1)]) (st' := [.ref v1, .int x2, .int x1, .ref v0]) rfl ?_
  refine xZ.k_gI (me := xm31) hP_31 rfl (fun x3 => ?_)
  refine xZ.adv (me := xm31) hP_31 1 (pc' := 14) (lv' := [(0, .ref v0), (1, .ref v1)]) (st' := [.ref v1, .int x3, .int x2, .int x1, .ref v0]) rfl ?_
  refine xZ.k_gI (me := xm31) hP_31 rfl (fun x4 => ?_)
  refine xZ.callv (κ := oU) (av := [.int x1, .int x2, .int x3, .int x4]) (rest := []) (st' := fun _ => []) (k0 := v0) (me := xm31) hP_31 rfl (Or.inl rfl) ⟨rfl, by decide⟩ rfl rfl (Nat.le_of_ble_eq_true rfl) (by decide) hP_32 (Nat.le_of_ble_eq_true rfl) (fun _ => rfl) (k_f_Rule_put O f (d + 0) v0 x1 x2 x3 x4 M) (fun _ M1 => ?_)
  refine xZ.adv (me := xm31) hP_31 2 (pc' := 22) (lv' := [(0, .ref v0), (1, .ref v1)]) (st' := [.ref v1, .ref v0]) rfl ?_
  refine xZ.k_gI (me := xm31) hP_31 rfl (fun x6 => ?_)
  refine xZ.adv (me := xm31) hP_31 1 (pc' := 26) (lv' := [(0, .ref v0), (1, .ref v1)]) (st' := [.ref v1, .int x6, .ref v0]) rfl ?_
  refine xZ.k_gI (me := xm31) hP_31 rfl (fun x7 => ?_)
  refine xZ.callv (κ := oU) (av := [.int x6, .int x7]) (rest := []) (st' := fun _ => []) (k0 := v0) (me := xm31) hP_31 rfl (Or.inl rfl) ⟨rfl, by decide⟩ rfl rfl (Nat.le_of_ble_eq_true rfl) (by decide) hP_33 (Nat.le_of_ble_eq_true rfl) (fun _ => rfl) (k_f_Rule_putEnd O f (d + 0) v0 x6 x7 M1) (fun _ M2 => ?_)
  refine xZ.adv (me := xm31) hP_31 2 (pc' := 34) (lv' := [(0, .ref v0), (1, .ref v1)]) (st' := [.ref v1, .ref v0]) rfl ?_
  refine xZ.k_gI (me := xm31) hP_31 rfl (fun x9 => ?_)
  refine xZ.k_pI (me := xm31) hP_31 rfl (fun M3 => ?_)
  refine xZ.adv (me := xm31) hP_31 2 (pc' := 42) (lv' := [(0, .ref v0), (1, .ref v1)]) (st' := [.ref v1, .ref v0]) rfl ?_
  refine xZ.k_gI (me := xm31) hP_31 rfl (fun x10 => ?_)
  refine xZ.k_pI (me := xm31) hP_31 rfl (fun M4 => ?_)
  exact xZ.retu (me := xm31) hP_31 rfl rfl
def f_Series_copyFrom (O : Nat → Option va_E) (f : Nat) (v0 : Nat) (v1 : Nat) (M : xM) : Option (Unit × xM) :=
  (gI O M v1 10 0).bind fun x1 =>
  (pI M v0 10 0 x1).bind fun M1 =>
  (gI O M1 v1 10 1).bind fun x2 =>
  (pI M1 v0 10 1 x2).bind fun M2 =>
  (gI O M2 v1 10 2).bind fun x3 =>
  (pI M2 v0 10 2 x3).bind fun M3 =>
  (gI O M3 v1 10 3).bind fun x4 =>
  (pI M3 v0 10 3 x4).bind fun M4 =>
  (gI O M4 v1 10 4).bind fun x5 =>
  (pI M4 v0 10 4 x5).bind fun M5 =>
  (gI O M5 v1 10 5).bind fun x6 =>
  (pI M5 v0 10 5 x6).bind fun M6 =>
  (gR O M6 v0 10 6).bind fun x7 =>
  (gR O M6 v1 10 6).bind fun x8 =>
  (isO O M6 x7 9).bind fun _ =>
  xcl (f_Rule_copyFrom O f x7 x8 M6) fun _ M7 =>
  (gI O M7 v1 10 7).bind fun x10 =>
  (pI M7 v0 10 7 x10).bind fun M8 =>
  (gR O M8 v1 10 8).bind fun x11 =>
  (gR O M8 v0 10 8).bind fun x12 =>
  (cpX M8 x11 (0 : Int32) x12 (0 : Int32) (10 : Int32)).bind fun M9 =>
  (gR O M9 v1 10 9).bind fun x13 =>
  (gR O M9 v0 10 9).bind fun x14 =>
  (cpX M9 x13 (0 : Int32) x14 (0 : Int32) (10 : Int32)).bind fun M10 =>
  (gR O M10 v1 10 10).bind fun x15 =>
  (gR O M10 v0 10 10).bind fun x16 =>
  (cpX M10 x15 (0 : Int32) x16 (0 : Int32) (8 : Int32)).bind fun M11 =>
  (gR O M11 v1 10 11).bind fun x17 =>
  (gR O M11 v0 10 11).bind fun x18 =>
  (cpX M11 x17 (0 : Int32) x18 (0 : Int32) (8 : Int32)).bind fun M12 =>
  some ((), M12)
set_option maxRecDepth 20000 in
theorem k_f_Series_copyFrom (O : Nat → Option va_E) (f d : Nat) (v0 : Nat) (v1 : Nat) (M : xM) : xZ oU O (d + 2) 30 0 [(0, .ref v0), (1, .ref v1)] [] M (f_Series_copyFrom O f v0 v1 M) := by
  unfold f_Series_copyFrom
  refine xZ.adv (me := xm30) hP_30 2 (pc' := 2) (lv' := [(0, .ref v0), (1, .ref v1)]) (st' := [.ref v1, .ref v0]) rfl ?_
  refine xZ.k_gI (me := xm30) hP_30 rfl (fun x1 => ?_)
  refine xZ.k_pI (me := xm30) hP_30 rfl (fun M1 => ?_)
  refine xZ.adv (me := xm30) hP_30 2 (pc' := 10) (lv' := [(0, .ref v0), (1, .ref v1)]) (st' := [.ref v1, .ref v0]) rfl ?_
  refine xZ.k_gI (me := xm30) hP_30 rfl (fun x2 => ?_)
  refine xZ.k_pI (me := xm30) hP_30 rfl (fun M2 => ?_)
  refine xZ.adv (me := xm30) hP_30 2 (pc' := 18) (lv' := [(0, .ref v0), (1, .ref v1)]) (st' := [.ref v1, .ref v0]) rfl ?_
  refine xZ.k_gI (me := xm30) hP_30 rfl (fun x3 => ?_)
  refine xZ.k_pI (me := xm30) hP_30 rfl (fun M3 => ?_)
  refine xZ.adv (me := xm30) hP_30 2 (pc' := 26) (lv' := [(0, .ref v0), (1, .ref v1)]) (st' := [.ref v1, .ref v0]) rfl ?_
  refine xZ.k_gI (me := xm30) hP_30 rfl (fun x4 => ?_)
  refine xZ.k_pI (me := xm30) hP_30 rfl (fun M4 => ?_)
  refine xZ.adv (me := xm30) hP_30 2 (pc' := 34) (lv' := [(0, .ref v0), (1, .ref v1)]) (st' := [.ref v1, .ref v0]) rfl ?_
  refine xZ.k_gI (me := xm30) hP_30 rfl (fun x5 => ?_)
  refine xZ.k_pI (me := xm30) hP_30 rfl (fun M5 => ?_)
  refine xZ.adv (me := xm30) hP_30 2 (pc' := 42) (lv' := [(0, .ref v0), (1, .ref v1)]) (st' := [.ref v1, .ref v0]) rfl ?_
  refine xZ.k_gI (me := xm30) hP_30 rfl (fun x6 => ?_)
  refine xZ.k_pI (me := xm30) hP_30 rfl (fun M6 => ?_)
  refine xZ.adv (me := xm30) hP_30 1 (pc' := 49) (lv' := [(0, .ref v0), (1, .ref v1)]) (st' := [.ref v0]) rfl ?_
  refine xZ.k_gR (me := xm30) hP_30 rfl (fun x7 => ?_)
  refine xZ.adv (me := xm30) hP_30 1 (pc' := 53) (lv' := [(0, .ref v0), (1, .ref v1)]) (st' := [.ref v1, .ref x7]) rfl ?_
  refine xZ.k_gR (me := xm30) hP_30 rfl (fun x8 => ?_)
  refine xZ.callv (κ := oU) (av := [.ref x8]) (rest := []) (st' := fun _ => []) (k0 := x7) (me := xm30) hP_30 rfl (Or.inl rfl) ⟨rfl, by decide⟩ rfl rfl (Nat.le_of_ble_eq_true rfl) (by decide) hP_31 (Nat.le_of_ble_eq_true rfl) (fun _ => rfl) (k_f_Rule_copyFrom O f (d + 0) x7 x8 M6) (fun _ M7 => ?_)
  refine xZ.adv (me := xm30) hP_30 2 (pc' := 61) (lv' := [(0, .ref v0), (1, .ref v1)]) (st' := [.ref v1, .ref v0]) rfl ?_
  refine xZ.k_gI (me := xm30) hP_30 rfl (fun x10 => ?_)
  refine xZ.k_pI (me := xm30) hP_30 rfl (fun M8 => ?_)
  refine xZ.adv (me := xm30) hP_30 1 (pc' := 68) (lv' := [(0, .ref v0), (1, .ref v1)]) (st' := [.ref v1]) rfl ?_
  refine xZ.k_gR (me := xm30) hP_30 rfl (fun x11 => ?_)
  refine xZ.adv (me := xm30) hP_30 2 (pc' := 73) (lv' := [(0, .ref v0), (1, .ref v1)]) (st' := [.ref v0, .int (0 : Int32), .ref x11]) rfl ?_
  refine xZ.k_gR (me := xm30) hP_30 rfl (fun x12 => ?_)
  refine xZ.adv (me := xm30) hP_30 2 (pc' := 79) (lv' := [(0, .ref v0), (1, .ref v1)]) (st' := [.int (10 : Int32), .int (0 : Int32), .ref x12, .int (0 : Int32), .ref x11]) rfl ?_
  refine xZ.k_cpX (me := xm30) hP_30 rfl (Nat.le_of_ble_eq_true rfl) (fun M9 => ?_)
  refine xZ.adv (me := xm30) hP_30 1 (pc' := 83) (lv' := [(0, .ref v0), (1, .ref v1)]) (st' := [.ref v1]) rfl ?_
  refine xZ.k_gR (me := xm30) hP_30 rfl (fun x13 => ?_)
  refine xZ.adv (me := xm30) hP_30 2 (pc' := 88) (lv' := [(0, .ref v0), (1, .ref v1)]) (st' := [.ref v0, .int (0 : Int32), .ref x13]) rfl ?_
  refine xZ.k_gR (me := xm30) hP_30 rfl (fun x14 => ?_)
  refine xZ.adv (me := xm30) hP_30 2 (pc' := 94) (lv' := [(0, .ref v0), (1, .ref v1)]) (st' := [.int (10 : Int32), .int (0 : Int32), .ref x14, .int (0 : Int32), .ref x13]) rfl ?_
  refine xZ.k_cpX (me := xm30) hP_30 rfl (Nat.le_of_ble_eq_true rfl) (fun M10 => ?_)
  refine xZ.adv (me := xm30) hP_30 1 (pc' := 98) (lv' := [(0, .ref v0), (1, .ref v1)]) (st' := [.ref v1]) rfl ?_
  refine xZ.k_gR (me := xm30) hP_30 rfl (fun x15 => ?_)
  refine xZ.adv (me := xm30) hP_30 2 (pc' := 103) (lv' := [(0, .ref v0), (1, .ref v1)]) (st' := [.ref v0, .int (0 : Int32), .ref x15]) rfl ?_
  refine xZ.k_gR (me := xm30) hP_30 rfl (fun x16 => ?_)
  refine xZ.adv (me := xm30) hP_30 2 (pc' := 109) (lv' := [(0, .ref v0), (1, .ref v1)]) (st' := [.int (8 : Int32), .int (0 : Int32), .ref x16, .int (0 : Int32), .ref x15]) rfl ?_
  refine xZ.k_cpX (me := xm30) hP_30 rfl (Nat.le_of_ble_eq_true rfl) (fun M11 => ?_)
  refine xZ.adv (me := xm30) hP_30 1 (pc' := 113) (lv' := [(0, .ref v0), (1, .ref v1)]) (st' := [.ref v1]) rfl ?_
  refine xZ.k_gR (me := xm30) hP_30 rfl (fun x17 => ?_)
  refine xZ.adv (me := xm30) hP_30 2 (pc' := 118) (lv' := [(0, .ref v0), (1, .ref v1)]) (st' := [.ref v0, .int (0 : Int32), .ref x17]) rfl ?_
  refine xZ.k_gR (me := xm30) hP_30 rfl (fun x18 => ?_)
  refine xZ.adv (me := xm30) hP_30 2 (pc' := 124) (lv' := [(0, .ref v0), (1, .ref v1)]) (st' := [.int (8 : Int32), .int (0 : Int32), .ref x18, .int (0 : Int32), .ref x17]) rfl ?_
  refine xZ.k_cpX (me := xm30) hP_30 rfl (Nat.le_of_ble_eq_true rfl) (fun M12 => ?_)
  exact xZ.retu (me := xm30) hP_30 rfl rfl
