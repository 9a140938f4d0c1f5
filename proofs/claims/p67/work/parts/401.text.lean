/-! ===== texts ===== -/
def f_Hall_anyDevice_22 (O : Nat → Option va_E) (f : Nat) (s0 : Nat) (s1 : Int32) (M : xM) : Option (Nat × xM) :=
  (aR O M s0 s1).bind fun x1 =>
  some (x1, M)
set_option maxRecDepth 20000 in
theorem k_f_Hall_anyDevice_22 (O : Nat → Option va_E) (f d : Nat) (s0 : Nat) (s1 : Int32) (M : xM) : xZ oR O (d + 0) 34 22 [] [.int s1, .ref s0] M (f_Hall_anyDevice_22 O f s0 s1 M) := by
  unfold f_Hall_anyDevice_22
  refine xZ.k_aR (me := xm34) hP_34 rfl (fun x1 => ?_)
  exact xZ.retr (me := xm34) hP_34 rfl rfl rfl
def f_Hall_anyDevice_21 (O : Nat → Option va_E) (f : Nat) (s0 : Nat) (M : xM) : Option (Nat × xM) :=
  f_Hall_anyDevice_22 O f s0 (0 : Int32) M
set_option maxRecDepth 20000 in
theorem k_f_Hall_anyDevice_21 (O : Nat → Option va_E) (f d : Nat) (s0 : Nat) (M : xM) : xZ oR O (d + 0) 34 21 [] [.ref s0] M (f_Hall_anyDevice_21 O f s0 M) := by
  unfold f_Hall_anyDevice_21
  refine xZ.adv (me := xm34) hP_34 1 (pc' := 22) (lv' := []) (st' := [.int (0 : Int32), .ref s0]) rfl ?_
  exact (k_f_Hall_anyDevice_22 O f d s0 (0 : Int32) M)
def f_Hall_anyDevice (O : Nat → Option va_E) (f : Nat) (v0 : Nat) (v1 : Int32) (M : xM) : Option (Nat × xM) :=
  (gR O M v0 4 4).bind fun x1 =>
  if v1 < 0 then (
    f_Hall_anyDevice_21 O f x1 M
  ) else
  (gR O M v0 4 4).bind fun x2 =>
  (aN O M x2).bind fun x3 =>
  if x3 ≤ v1 then (
    f_Hall_anyDevice_21 O f x1 M
  ) else
  f_Hall_anyDevice_22 O f x1 v1 M
set_option maxRecDepth 20000 in
theorem k_f_Hall_anyDevice (O : Nat → Option va_E) (f d : Nat) (v0 : Nat) (v1 : Int32) (M : xM) : xZ oR O (d + 0) 34 0 [(0, .ref v0), (1, .int v1)] [] M (f_Hall_anyDevice O f v0 v1 M) := by
  unfold f_Hall_anyDevice
  refine xZ.adv (me := xm34) hP_34 1 (pc' := 1) (lv' := [(0, .ref v0), (1, .int v1)]) (st' := [.ref v0]) rfl ?_
  refine xZ.k_gR (me := xm34) hP_34 rfl (fun x1 => ?_)
  refine xZ.adv (me := xm34) hP_34 1 (pc' := 5) (lv' := [(0, .ref v0), (1, .int v1)]) (st' := [.int v1, .ref x1]) rfl ?_
  refine xZ.if_lt (me := xm34) hP_34 rfl (fun h1 => ?_) (fun h1 => ?_)
  · skip
    exact xZ.sub xsn (show ([0, 1] : List Nat).Nodup from by decide) (k_f_Hall_anyDevice_21 O f d x1 M)
  · skip
    refine xZ.adv (me := xm34) hP_34 2 (pc' := 10) (lv' := [(0, .ref v0), (1, .int v1)]) (st' := [.ref v0, .int v1, .ref x1]) rfl ?_
    refine xZ.k_gR (me := xm34) hP_34 rfl (fun x2 => ?_)
    refine xZ.k_aN (me := xm34) hP_34 rfl (fun x3 => ?_)
    refine xZ.ic_ge (me := xm34) hP_34 rfl (fun h2 => ?_) (fun h2 => ?_)
    · skip
      exact xZ.sub xsn (show ([0, 1] : List Nat).Nodup from by decide) (k_f_Hall_anyDevice_21 O f d x1 M)
    · skip
      refine xZ.adv (me := xm34) hP_34 2 (pc' := 22) (lv' := [(0, .ref v0), (1, .int v1)]) (st' := [.int v1, .ref x1]) rfl ?_
      exact xZ.sub xsn (show ([0, 1] : List Nat).Nodup from by decide) (k_f_Hall_anyDevice_22 O f d x1 v1 M)
def f_Device_copyFrom (O : Nat → Option va_E) (f : Nat) (v0 : Nat) (v1 : Nat) (M : xM) : Option (Unit × xM) :=
  (gI O M v1 3 0).bind fun x1 =>
  (pI M v0 3 0 x1).bind fun M1 =>
  (gI O M1 v1 3 1).bind fun x2 =>
  (pI M1 v0 3 1 x2).bind fun M2 =>
  (gR O M2 v1 3 2).bind fun x3 =>
  (gR O M2 v0 3 2).bind fun x4 =>
  (cpX M2 x3 (0 : Int32) x4 (0 : Int32) (40 : Int32)).bind fun M3 =>
  (gR O M3 v1 3 3).bind fun x5 =>
  (gR O M3 v0 3 3).bind fun x6 =>
  (cpX M3 x5 (0 : Int32) x6 (0 : Int32) (40 : Int32)).bind fun M4 =>
  (gR O M4 v1 3 4).bind fun x7 =>
  (gR O M4 v0 3 4).bind fun x8 =>
  (cpX M4 x7 (0 : Int32) x8 (0 : Int32) (40 : Int32)).bind fun M5 =>
  (gR O M5 v1 3 5).bind fun x9 =>
  (gR O M5 v0 3 5).bind fun x10 =>
  (cpX M5 x9 (0 : Int32) x10 (0 : Int32) (48 : Int32)).bind fun M6 =>
  (gR O M6 v1 3 6).bind fun x11 =>
  (gR O M6 v0 3 6).bind fun x12 =>
  (cpX M6 x11 (0 : Int32) x12 (0 : Int32) (48 : Int32)).bind fun M7 =>
  (gR O M7 v1 3 7).bind fun x13 =>
  (gR O M7 v0 3 7).bind fun x14 =>
  (cpX M7 x13 (0 : Int32) x14 (0 : Int32) (48 : Int32)).bind fun M8 =>
  some ((), M8)
set_option maxRecDepth 20000 in
theorem k_f_Device_copyFrom (O : Nat → Option va_E) (f d : Nat) (v0 : Nat) (v1 : Nat) (M : xM) : xZ oU O (d + 0) 35 0 [(0, .ref v0), (1, .ref v1)] [] M (f_Device_copyFrom O f v0 v1 M) := by
  unfold f_Device_copyFrom
  refine xZ.adv (me := xm35) hP_35 2 (pc' := 2) (lv' := [(0, .ref v0), (1, .ref v1)]) (st' := [.ref v1, .ref v0]) rfl ?_
  refine xZ.k_gI (me := xm35) hP_35 rfl (fun x1 => ?_)
  refine xZ.k_pI (me := xm35) hP_35 rfl (fun M1 => ?_)
  refine xZ.adv (me := xm35) hP_35 2 (pc' := 10) (lv' := [(0, .ref v0), (1, .ref v1)]) (st' := [.ref v1, .ref v0]) rfl ?_
  refine xZ.k_gI (me := xm35) hP_35 rfl (fun x2 => ?_)
  refine xZ.k_pI (me := xm35) hP_35 rfl (fun M2 => ?_)
  refine xZ.adv (me := xm35) hP_35 1 (pc' := 17) (lv' := [(0, .ref v0), (1, .ref v1)]) (st' := [.ref v1]) rfl ?_
  refine xZ.k_gR (me := xm35) hP_35 rfl (fun x3 => ?_)
  refine xZ.adv (me := xm35) hP_35 2 (pc' := 22) (lv' := [(0, .ref v0), (1, .ref v1)]) (st' := [.ref v0, .int (0 : Int32), .ref x3]) rfl ?_
  refine xZ.k_gR (me := xm35) hP_35 rfl (fun x4 => ?_)
  refine xZ.adv (me := xm35) hP_35 2 (pc' := 28) (lv' := [(0, .ref v0), (1, .ref v1)]) (st' := [.int (40 : Int32), .int (0 : Int32), .ref x4, .int (0 : Int32), .ref x3]) rfl ?_
  refine xZ.k_cpX (me := xm35) hP_35 rfl (Nat.le_of_ble_eq_true rfl) (fun M3 => ?_)
  refine xZ.adv (me := xm35) hP_35 1 (pc' := 32) (lv' := [(0, .ref v0), (1, .ref v1)]) (st' := [.ref v1]) rfl ?_
  refine xZ.k_gR (me := xm35) hP_35 rfl (fun x5 => ?_)
  refine xZ.adv (me := xm35) hP_35 2 (pc' := 37) (lv' := [(0, .ref v0), (1, .ref v1)]) (st' := [.ref v0, .int (0 : Int32), .ref x5]) rfl ?_
  refine xZ.k_gR (me := xm35) hP_35 rfl (fun x6 => ?_)
  refine xZ.adv (me := xm35) hP_35 2 (pc' := 43) (lv' := [(0, .ref v0), (1, .ref v1)]) (st' := [.int (40 : Int32), .int (0 : Int32), .ref x6, .int (0 : Int32), .ref x5]) rfl ?_
  refine xZ.k_cpX (me := xm35) hP_35 rfl (Nat.le_of_ble_eq_true rfl) (fun M4 => ?_)
  refine xZ.adv (me := xm35) hP_35 1 (pc' := 47) (lv' := [(0, .ref v0), (1, .ref v1)]) (st' := [.ref v1]) rfl ?_
  refine xZ.k_gR (me := xm35) hP_35 rfl (fun x7 => ?_)
  refine xZ.adv (me := xm35) hP_35 2 (pc' := 52) (lv' := [(0, .ref v0), (1, .ref v1)]) (st' := [.ref v0, .int (0 : Int32), .ref x7]) rfl ?_
  refine xZ.k_gR (me := xm35) hP_35 rfl (fun x8 => ?_)
  refine xZ.adv (me := xm35) hP_35 2 (pc' := 58) (lv' := [(0, .ref v0), (1, .ref v1)]) (st' := [.int (40 : Int32), .int (0 : Int32), .ref x8, .int (0 : Int32), .ref x7]) rfl ?_
  refine xZ.k_cpX (me := xm35) hP_35 rfl (Nat.le_of_ble_eq_true rfl) (fun M5 => ?_)
  refine xZ.adv (me := xm35) hP_35 1 (pc' := 62) (lv' := [(0, .ref v0), (1, .ref v1)]) (st' := [.ref v1]) rfl ?_
  refine xZ.k_gR (me := xm35) hP_35 rfl (fun x9 => ?_)
  refine xZ.adv (me := xm35) hP_35 2 (pc' := 67) (lv' := [(0, .ref v0), (1, .ref v1)]) (st' := [.ref v0, .int (0 : Int32), .ref x9]) rfl ?_
  refine xZ.k_gR (me := xm35) hP_35 rfl (fun x10 => ?_)
  refine xZ.adv (me := xm35) hP_35 2 (pc' := 73) (lv' := [(0, .ref v0), (1, .ref v1)]) (st' := [.int (48 : Int32), .int (0 : Int32), .ref x10, .int (0 : Int32), .ref x9]) rfl ?_
  refine xZ.k_cpX (me := xm35) hP_35 rfl (Nat.le_of_ble_eq_true rfl) (fun M6 => ?_)
  refine xZ.adv (me := xm35) hP_35 1 (pc' := 77) (lv' := [(0, .ref v0), (1, .ref v1)]) (st' := [.ref v1]) rfl ?_
  refine xZ.k_gR (me := xm35) hP_35 rfl (fun x11 => ?_)
  refine xZ.adv (me := xm35) hP_35 2 (pc' := 82) (lv' := [(0, .ref v0), (1, .ref v1)]) (st' := [.ref v0, .int (0 : Int32), .ref x11]) rfl ?_
  refine xZ.k_gR (me := xm35) hP_35 rfl (fun x12 => ?_)
  refine xZ.adv (me := xm35) hP_35 2 (pc' := 88) (lv' := [(0, .ref v0), (1, .ref v1)]) (st' := [.int (48 : Int32), .int (0 : Int32), .ref x12, .int (0 : Int32), .ref x11]) rfl ?_
  refine xZ.k_cpX (me := xm35) hP_35 rfl (Nat.le_of_ble_eq_true rfl) (fun M7 => ?_)
  refine xZ.adv (me := xm35) hP_35 1 (pc' := 92) (lv' := [(0, .ref v0), (1, .ref v1)]) (st' := [.ref v1]) rfl ?_
  refine xZ.k_gR (me := xm35) hP_35 rfl (fun x13 => ?_)
  refine xZ.adv (me := xm35) hP_35 2 (pc' := 97) (lv' := [(0, .ref v0), (1, .ref v1)]) (st' := [.ref v0, .int (0 : Int32), .ref x13]) rfl ?_
  refine xZ.k_gR (me := xm35) hP_35 rfl (fun x14 => ?_)
  refine xZ.adv (me := xm35) hP_35 2 (pc' := 103) (lv' := [(0, .ref v0), (1, .ref v1)]) (st' := [.int (48 : Int32), .int (0 : Int32), .ref x14, .int (0 : Int32), .ref x13]) rfl ?_
  refine xZ.k_cpX (me := xm35) hP_35 rfl (Nat.le_of_ble_eq_true rfl) (fun M8 => ?_)
  exact xZ.retu (me := xm35) hP_35 rfl rfl
def f_Hall_copyFrom_82 (O : Nat → Option va_E) (f : Nat) : Nat → Nat → Nat → Int32 → xM → Option (Unit × xM)
  | 0, _, _, _, _ => none
  | n + 1, v0, v1, v2, M =>
    if (2 : Int32) ≤ v2 then (
      (gR O M v1 4 2).bind fun x1 =>
      (gR O M v0 4 2).bind fun x2 =>
      (cpX M x1 (0 : Int32) x2 (0 : Int32) (4 : Int32)).bind fun M1 =>
      (gI O M1 v1 4 5).bind fun x3 =>
      (pI M1 v0 4 5 x3).bind fun M2 =>
      (gR O M2 v1 4 6).bind fun x4 =>
      (gR O M2 v0 4 6).bind fun x5 =>
      (cpX M2 x4 (0 : Int32) x5 (0 : Int32) (10 : Int32)).bind fun M3 =>
      (gR O M3 v1 4 7).bind fun x6 =>
      (gR O M3 v0 4 7).bind fun x7 =>
      (cpX M3 x6 (0 : Int32) x7 (0 : Int32) (10 : Int32)).bind fun M4 =>
      (gR O M4 v1 4 8).bind fun x8 =>
      (gR O M4 v0 4 8).bind fun x9 =>
      (cpX M4 x8 (0 : Int32) x9 (0 : Int32) (30 : Int32)).bind fun M5 =>
      (gI O M5 v1 4 9).bind fun x10 =>
      (pI M5 v0 4 9 x10).bind fun M6 =>
      (gR O M6 v1 4 10).bind fun x11 =>
      (gR O M6 v0 4 10).bind fun x12 =>
      (cpX M6 x11 (0 : Int32) x12 (0 : Int32) (10 : Int32)).bind fun M7 =>
      (gI O M7 v1 4 11).bind fun x13 =>
      (pI M7 v0 4 11 x13).bind fun M8 =>
      some ((), M8)
    ) else
    (isO O M v0 4).bind fun _ =>
    xcl (f_Hall_anyDevice O f v0 v2 M) fun x14 M9 =>
    (isO O M9 v1 4).bind fun _ =>
    xcl (f_Hall_anyDevice O f v1 v2 M9) fun x15 M10 =>
    (isO O M10 x14 3).bind fun _ =>
    xcl (f_Device_copyFrom O f x14 x15 M10) fun _ M11 =>
    f_Hall_copyFrom_82 O f n v0 v1 (v2 + (1 : Int32)) M11
set_option maxRecDepth 20000 in
theorem k_f_Hall_copyFrom_82 (O : Nat → Option va_E) (f d : Nat) : ∀ (n : Nat) (v0 : Nat) (v1 : Nat) (v2 : Int32) (M : xM), xZ oU O (d + 3) 24 82 [(0, .ref v0), (1, .ref v1), (2, .int v2)] [] M (f_Hall_copyFrom_82 O f n v0 v1 v2 M) := by
  intro n
  induction n with
  | zero =>
    intro v0 v1 v2 M
    exact xZ.no
  | succ n ih =>
    intro v0 v1 v2 M
    unfold f_Hall_copyFrom_82
    refine xZ.adv (me := xm24) hP_24 2 (pc' := 84) (lv' := [(0, .ref v0), (1, .ref v1), (2, .int v2)]) (st' := [.int (2 : Int32), .int v2]) rfl ?_
    refine xZ.ic_ge (me := xm24) hP_24 rfl (fun h1 => ?_) (fun h1 => ?_)
    · skip
      refine xZ.adv (me := xm24) hP_24 1 (pc' := 107) (lv' := [(0, .ref v0), (1, .ref v1), (2, .int v2)]) (st' := [.ref v1]) rfl ?_
      refine xZ.k_gR (me := xm24) hP_24 rfl (fun x1 => ?_)
      refine xZ.adv (me := xm24) hP_24 2 (pc' := 112) (lv' := [(0, .ref v0), (1, .ref v1), (2, .int v2)]) (st' := [.ref v0, .int (0 : Int32), .ref x1]) rfl ?_
      refine xZ.k_gR (me := xm24) hP_24 rfl (fun x2 => ?_)
      refine xZ.adv (me := xm24) hP_24 2 (pc' := 117) (lv' := [(0, .ref v0), (1, .ref v1), (2, .int v2)]) (st' := [.int (4 : Int32), .int (0 : Int32), .ref x2, .int (0 : Int32), .ref x1]) rfl ?_
      refine xZ.k_cpX (me := xm24) hP_24 rfl (Nat.le_of_ble_eq_true rfl) (fun M1 => ?_)
      refine xZ.adv (me := xm24) hP_24 2 (pc' := 122) (lv' := [(0, .ref v0), (1, .ref v1), (2, .int v2)]) (st' := [.ref v1, .ref v0]) rfl ?_
      refine xZ.k_gI (me := xm24) hP_24 rfl (fun x3 => ?_)
      refine xZ.k_pI (me := xm24) hP_24 rfl (fun M2 => ?_)
      refine xZ.adv (me := xm24) hP_24 1 (pc' := 129) (lv' := [(0, .ref v0), (1, .ref v1), (2, .int v2)]) (st' := [.ref v1]) rfl ?_
      refine xZ.k_gR (me := xm24) hP_24 rfl (fun x4 => ?_)
      refine xZ.adv (me := xm24) hP_24 2 (pc' := 134) (lv' := [(0, .ref v0), (1, .ref v1), (2, .int v2)]) (st' := [.ref v0, .int (0 : Int32), .ref x4]) rfl ?_
      refine xZ.k_gR (me := xm24) hP_24 rfl (fun x5 => ?_)
      refine xZ.adv (me := xm24) hP_24 2 (pc' := 140) (lv' := [(0, .ref v0), (1, .ref v1), (2, .int v2)]) (st' := [.int (10 : Int32), .int (0 : Int32), .ref x5, .int (0 : Int32), .ref x4]) rfl ?_
      refine xZ.k_cpX (me := xm24) hP_24 rfl (Nat.le_of_ble_eq_true rfl) (fun M3 => ?_)
      refine xZ.adv (me := xm24) hP_24 1 (pc' := 144) (lv' := [(0, .ref v0), (1, .ref v1), (2, .int v2)]) (st' := [.ref v1]) rfl ?_
      refine xZ.k_gR (me := xm24) hP_24 rfl (fun x6 => ?_)
      refine xZ.adv (me := xm24) hP_24 2 (pc' := 149) (lv' := [(0, .ref v0), (1, .ref v1), (2, .int v2)]) (st' := [.ref v0, .int (0 : Int32), .ref x6]) rfl ?_
      refine xZ.k_gR (me := xm24) hP_24 rfl (fun x7 => ?_)
      refine xZ.adv (me := xm24) hP_24 2 (pc' := 155) (lv' := [(0, .ref v0), (1, .ref v1), (2, .int v2)]) (st' := [.int (10 : Int32), .int (0 : Int32), .ref x7, .int (0 : Int32), .ref x6]) rfl ?_
      refine xZ.k_cpX (me := xm24) hP_24 rfl (Nat.le_of_ble_eq_true rfl) (fun M4 => ?_)
      refine xZ.adv (me := xm24) hP_24 1 (pc' := 159) (lv' := [(0, .ref v0), (1, .ref v1), (2, .int v2)]) (st' := [.ref v1]) rfl ?_
      refine xZ.k_gR (me := xm24) hP_24 rfl (fun x8 => ?_)
      refine xZ.adv (me := xm24) hP_24 2 (pc' := 164) (lv' := [(0, .ref v0), (1, .ref v1), (2, .int v2)]) (st' := [.ref v0, .int (0 : Int32), .ref x8]) rfl ?_
      refine xZ.k_gR (me := xm24) hP_24 rfl (fun x9 => ?_)
      refine xZ.adv (me := xm24) hP_24 2 (pc' := 170) (lv' := [(0, .ref v0), (1, .ref v1), (2, .int v2)]) (st' := [.int (30 : Int32), .int (0 : Int32), .ref x9, .int (0 : Int32), .ref x8]) rfl ?_
      refine xZ.k_cpX (me := xm24) hP_24 rfl (Nat.le_of_ble_eq_true rfl) (fun M5 => ?_)
      refine xZ.adv (me := xm24) hP_24 2 (pc' := 175) (lv' := [(0, .ref v0), (1, .ref v1), (2, .int v2)]) (st' := [.ref v1, .ref v0]) rfl ?_
      refine xZ.k_gI (me := xm24) hP_24 rfl (fun x10 => ?_)
      refine xZ.k_pI (me := xm24) hP_24 rfl (fun M6 => ?_)
      refine xZ.adv (me := xm24) hP_24 1 (pc' := 182) (lv' := [(0, .ref v0), (1, .ref v1), (2, .int v2)]) (st' := [.ref v1]) rfl ?_
      refine xZ.k_gR (me := xm24) hP_24 rfl (fun x11 => ?_)
      refine xZ.adv (me := xm24) hP_24 2 (pc' := 187) (lv' := [(0, .ref v0), (1, .ref v1), (2, .int v2)]) (st' := [.ref v0, .int (0 : Int32), .ref x11]) rfl ?_
      refine xZ.k_gR (me := xm24) hP_24 rfl (fun x12 => ?_)
      refine xZ.adv (me := xm24) hP_24 2 (pc' := 193) (lv' := [(0, .ref v0), (1, .ref v1), (2, .int v2)]) (st' := [.int (10 : Int32), .int (0 : Int32), .ref x12, .int (0 : Int32), .ref x11]) rfl ?_
      refine xZ.k_cpX (me := xm24) hP_24 rfl (Nat.le_of_ble_eq_true rfl) (fun M7 => ?_)
      refine xZ.adv (me := xm24) hP_24 2 (pc' := 198) (lv' := [(0, .ref v0), (1, .ref v1), (2, .int v2)]) (st' := [.ref v1, .ref v0]) rfl ?_
      refine xZ.k_gI (me := xm24) hP_24 rfl (fun x13 => ?_)
      refine xZ.k_pI (me := xm24) hP_24 rfl (fun M8 => ?_)
      exact xZ.retu (me := xm24) hP_24 rfl rfl
    · skip
      refine xZ.adv (me := xm24) hP_24 2 (pc' := 89) (lv' := [(0, .ref v0), (1, .ref v1), (2, .int v2)]) (st' := [.int v2, .ref v0]) rfl ?_
      refine xZ.callv (κ := oR) (av := [.int v2]) (rest := []) (st' := fun x14 => [.ref x14]) (k0 := v0) (me := xm24) hP_24 rfl (Or.inl rfl) ⟨rfl, by decide⟩ rfl rfl (Nat.le_of_ble_eq_true rfl) (by decide) hP_34 (Nat.le_of_ble_eq_true rfl) (fun _ => rfl) (k_f_Hall_anyDevice O f (d + 2) v0 v2 M) (fun x14 M9 => ?_)
      refine xZ.adv (me := xm24) hP_24 2 (pc' := 94) (lv' := [(0, .ref v0), (1, .ref v1), (2, .int v2)]) (st' := [.int v2, .ref v1, .ref x14]) rfl ?_
      refine xZ.callv (κ := oR) (av := [.int v2]) (rest := [.ref x14]) (st' := fun x15 => [.ref x15, .ref x14]) (k0 := v1) (me := xm24) hP_24 rfl (Or.inl rfl) ⟨rfl, by decide⟩ rfl rfl (Nat.le_of_ble_eq_true rfl) (by decide) hP_34 (Nat.le_of_ble_eq_true rfl) (fun _ => rfl) (k_f_Hall_anyDevice O f (d + 2) v1 v2 M9) (fun x15 M10 => ?_)
      refine xZ.callv (κ := oU) (av := [.ref x15]) (rest := []) (st' := fun _ => []) (k0 := x14) (me := xm24) hP_24 rfl (Or.inl rfl) ⟨rfl, by decide⟩ rfl rfl (Nat.le_of_ble_eq_true rfl) (by decide) hP_35 (Nat.le_of_ble_eq_true rfl) (fun _ => rfl) (k_f_Device_copyFrom O f (d + 2) x14 x15 M10) (fun _ M11 => ?_)
      refine xZ.adv (me := xm24) hP_24 2 (pc' := 82) (lv' := [(2, .int (v2 + (1 : Int32))), (0, .ref v0), (1, .ref v1)]) (st' := []) rfl ?_
      exact xZ.sub (xsc (.tail _ (.head _)) (xsc (.tail _ (.tail _ (.head _))) (xsc (.head _) xsn))) (show ([2, 0, 1] : List Nat).Nodup from by decide) (ih v0 v1 (v2 + (1 : Int32)) M11)
def f_Hall_copyFrom_55 (O : Nat → Option va_E) (f : Nat) : Nat → Nat → Nat → Int32 → xM → Option (Unit × xM)
  | 0, _, _, _, _ => none
  | n + 1, v0, v1, v2, M =>
    if (12 : Int32) ≤ v2 then (
      f_Hall_copyFrom_82 O f f v0 v1 (0 : Int32) M
    ) else
    (isO O M v0 4).bind fun _ =>
    xcl (f_Hall_anySeries O f v0 v2 M) fun x1 M1 =>
    (isO O M1 v1 4).bind fun _ =>
    xcl (f_Hall_anySeries O f v1 v2 M1) fun x2 M2 =>
    (isO O M2 x1 10).bind fun _ =>
    xcl (f_Series_copyFrom O f x1 x2 M2) fun _ M3 =>
    f_Hall_copyFrom_55 O f n v0 v1 (v2 + (1 : Int32)) M3
set_option maxRecDepth 20000 in
theorem k_f_Hall_copyFrom_55 (O : Nat → Option va_E) (f d : Nat) : ∀ (n : Nat) (v0 : Nat) (v1 : Nat) (v2 : Int32) (M : xM), xZ oU O (d + 3) 24 55 [(0, .ref v0), (1, .ref v1), (2, .int v2)] [] M (f_Hall_copyFrom_55 O f n v0 v1 v2 M) := by
  intro n
  induction n with
  | zero =>
    intro v0 v1 v2 M
    exact xZ.no
  | succ n ih =>
    intro v0 v1 v2 M
    unfold f_Hall_copyFrom_55
    refine xZ.adv (me := xm24) hP_24 2 (pc' := 58) (lv' := [(0, .ref v0), (1, .ref v1), (2, .int v2)]) (st' := [.int (12 : Int32), .int v2]) rfl ?_
    refine xZ.ic_ge (me := xm24) hP_24 rfl (fun h1 => ?_) (fun h1 => ?_)
    · skip
      refine xZ.adv (me := xm24) hP_24 2 (pc' := 82) (lv' := [(2, .int (0 : Int32)), (0, .ref v0), (1, .ref v1)]) (st' := []) rfl ?_
      exact xZ.sub (xsc (.tail _ (.head _)) (xsc (.tail _ (.tail _ (.head _))) (xsc (.head _) xsn))) (show ([2, 0, 1] : List Nat).Nodup from by decide) (k_f_Hall_copyFrom_82 O f d f v0 v1 (0 : Int32) M)
    · skip
      refine xZ.adv (me := xm24) hP_24 2 (pc' := 63) (lv' := [(0, .ref v0), (1, .ref v1), (2, .int v2)]) (st' := [.int v2, .ref v0]) rfl ?_
      refine xZ.callv (κ := oR) (av := [.int v2]) (rest := []) (st' := fun x1 => [.ref x1]) (k0 := v0) (me := xm24) hP_24 rfl (Or.inl rfl) ⟨rfl, by decide⟩ rfl rfl (Nat.le_of_ble_eq_true rfl) (by decide) hP_29 (Nat.le_of_ble_eq_true rfl) (fun _ => rfl) (k_f_Hall_anySeries O f (d + 2) v0 v2 M) (fun x1 M1 => ?_)
      refine xZ.adv (me := xm24) hP_24 2 (pc' := 68) (lv' := [(0, .ref v0), (1, .ref v1), (2, .int v2)]) (st' := [.int v2, .ref v1, .ref x1]) rfl ?_
      refine xZ.callv (κ := oR) (av := [.int v2]) (rest := [.ref x1]) (st' := fun x2 => [.ref x2, .ref x1]) (k0 := v1) (me := xm24) hP_24 rfl (Or.inl rfl) ⟨rfl, by decide⟩ rfl rfl (Nat.le_of_ble_eq_true rfl) (by decide) hP_29 (Nat.le_of_ble_eq_true rfl) (fun _ => rfl) (k_f_Hall_anySeries O f (d + 2) v1 v2 M1) (fun x2 M2 => ?_)
      refine xZ.callv (κ := oU) (av := [.ref x2]) (rest := []) (st' := fun _ => []) (k0 := x1) (me := xm24) hP_24 rfl (Or.inl rfl) ⟨rfl, by decide⟩ rfl rfl (Nat.le_of_ble_eq_true rfl) (by decide) hP_30 (Nat.le_of_ble_eq_true rfl) (fun _ => rfl) (k_f_Series_copyFrom O f (d + 0) x1 x2 M2) (fun _ M3 => ?_)
      refine xZ.adv (me := xm24) hP_24 2 (pc' := 55) (lv' := [(2, .int (v2 + (1 : Int32))), (0, .ref v0), (1, .ref v1)]) (st' := []) rfl ?_
      exact xZ.sub (xsc (.tail _ (.head _)) (xsc (.tail _ (.tail _ (.head _))) (xsc (.head _) xsn))) (show ([2, 0, 1] : List Nat).Nodup from by decide) (ih v0 v1 (v2 + (1 : Int32)) M3)
def f_Hall_copyFrom_28 (O : Nat → Option va_E) (f : Nat) : Nat → Nat → Nat → Int32 → xM → Option (Unit × xM)
  | 0, _, _, _, _ => none
  | n + 1, v0, v1, v2, M =>
    if (8 : Int32) ≤ v2 then (
      f_Hall_copyFrom_55 O f f v0 v1 (0 : Int32) M
    ) else
    (isO O M v0 4).bind fun _ =>
    xcl (f_Hall_anyPerson O f v0 v2 M) fun x1 M1 =>
    (isO O M1 v1 4).bind fun _ =>
    xcl (f_Hall_anyPerson O f v1 v2 M1) fun x2 M2 =>
    (isO O M2 x1 6).bind fun _ =>
    xcl (f_Person_copyFrom O f x1 x2 M2) fun _ M3 =>
    f_Hall_copyFrom_28 O f n v0 v1 (v2 + (1 : Int32)) M3
set_option maxRecDepth 20000 in
theorem k_f_Hall_copyFrom_28 (O : Nat → Option va_E) (f d : Nat) : ∀ (n : Nat) (v0 : Nat) (v1 : Nat) (v2 : Int32) (M : xM), xZ oU O (d + 3) 24 28 [(0, .ref v0), (1, .ref v1), (2, .int v2)] [] M (f_Hall_copyFrom_28 O f n v0 v1 v2 M) := by
  intro n
  induction n with
  | zero =>
    intro v0 v1 v2 M
    exact xZ.no
  | succ n ih =>
    intro v0 v1 v2 M
    unfold f_Hall_copyFrom_28
    refine xZ.adv (me := xm24) hP_24 2 (pc' := 31) (lv' := [(0, .ref v0), (1, .ref v1), (2, .int v2)]) (st' := [.int (8 : Int32), .int v2]) rfl ?_
    refine xZ.ic_ge (me := xm24) hP_24 rfl (fun h1 => ?_) (fun h1 => ?_)
    · skip
      refine xZ.adv (me := xm24) hP_24 2 (pc' := 55) (lv' := [(2, .int (0 : Int32)), (0, .ref v0), (1, .ref v1)]) (st' := []) rfl ?_
      exact xZ.sub (xsc (.tail _ (.head _)) (xsc (.tail _ (.tail _ (.head _))) (xsc (.head _) xsn))) (show ([2, 0, 1] : List Nat).Nodup from by decide) (k_f_Hall_copyFrom_55 O f d f v0 v1 (0 : Int32) M)
    · skip
      refine xZ.adv (me := xm24) hP_24 2 (pc' := 36) (lv' := [(0, .ref v0), (1, .ref v1), (2, .int v2)]) (st' := [.int v2, .ref v0]) rfl ?_
      refine xZ.callv (κ := oR) (av := [.int v2]) (rest := []) (st' := fun x1 => [.ref x1]) (k0 := v0) (me := xm24) hP_24 rfl (Or.inl rfl) ⟨rfl, by decide⟩ rfl rfl (Nat.le_of_ble_eq_true rfl) (by decide) hP_26 (Nat.le_of_ble_eq_true rfl) (fun _ => rfl) (k_f_Hall_anyPerson O f (d + 2) v0 v2 M) (fun x1 M1 => ?_)
      refine xZ.adv (me := xm24) hP_24 2 (pc' := 41) (lv' := [(0, .ref v0), (1, .ref v1), (2, .int v2)]) (st' := [.int v2, .ref v1, .ref x1]) rfl ?_
      refine xZ.callv (κ := oR) (av := [.int v2]) (rest := [.ref x1]) (st' := fun x2 => [.ref x2, .ref x1]) (k0 := v1) (me := xm24) hP_24 rfl (Or.inl rfl) ⟨rfl, by decide⟩ rfl rfl (Nat.le_of_ble_eq_true rfl) (by decide) hP_26 (Nat.le_of_ble_eq_true rfl) (fun _ => rfl) (k_f_Hall_anyPerson O f (d + 2) v1 v2 M1) (fun x2 M2 => ?_)
      refine xZ.callv (κ := oU) (av := [.ref x2]) (rest := []) (st' := fun _ => []) (k0 := x1) (me := xm24) hP_24 rfl (Or.inl rfl) ⟨rfl, by decide⟩ rfl rfl (Nat.le_of_ble_eq_true rfl) (by decide) hP_27 (Nat.le_of_ble_eq_true rfl) (fun _ => rfl) (k_f_Person_copyFrom O f (d + 1) x1 x2 M2) (fun _ M3 => ?_)
      refine xZ.adv (me := xm24) hP_24 2 (pc' := 28) (lv' := [(2, .int (v2 + (1 : Int32))), (0, .ref v0), (1, .ref v1)]) (st' := []) rfl ?_
      exact xZ.sub (xsc (.tail _ (.head _)) (xsc (.tail _ (.tail _ (.head _))) (xsc (.head _) xsn))) (show ([2, 0, 1] : List Nat).Nodup from by decide) (ih v0 v1 (v2 + (1 : Int32)) M3)
def f_Hall_copyFrom_2 (O : Nat → Option va_E) (f : Nat) : Nat → Nat → Nat → Int32 → xM → Option (Unit × xM)
  | 0, _, _, _, _ => none
  | n + 1, v0, v1, v2, M =>
    if (3 : Int32) ≤ v2 then (
      f_Hall_copyFrom_28 O f f v0 v1 (0 : Int32) M
    ) else
    (isO O M v0 4).bind fun _ =>
    xcl (f_Hall_anyZone O f v0 v2 M) fun x1 M1 =>
    (isO O M1 v1 4).bind fun _ =>
    xcl (f_Hall_anyZone O f v1 v2 M1) fun x2 M2 =>
    (isO O M2 x1 11).bind fun _ =>
    xcl (f_Zone_copyFrom O f x1 x2 M2) fun _ M3 =>
    f_Hall_copyFrom_2 O f n v0 v1 (v2 + (1 : Int32)) M3
set_option maxRecDepth 20000 in
theorem k_f_Hall_copyFrom_2 (O : Nat → Option va_E) (f d : Nat) : ∀ (n : Nat) (v0 : Nat) (v1 : Nat) (v2 : Int32) (M : xM), xZ oU O (d + 3) 24 2 [(0, .ref v0), (1, .ref v1), (2, .int v2)] [] M (f_Hall_copyFrom_2 O f n v0 v1 v2 M) := by
  intro n
  induction n with
  | zero =>
    intro v0 v1 v2 M
    exact xZ.no
  | succ n ih =>
    intro v0 v1 v2 M
    unfold f_Hall_copyFrom_2
    refine xZ.adv (me := xm24) hP_24 2 (pc' := 4) (lv' := [(0, .ref v0), (1, .ref v1), (2, .int v2)]) (st' := [.int (3 : Int32), .int v2]) rfl ?_
    refine xZ.ic_ge (me := xm24) hP_24 rfl (fun h1 => ?_) (fun h1 => ?_)
    · skip
      refine xZ.adv (me := xm24) hP_24 2 (pc' := 28) (lv' := [(2, .int (0 : Int32)), (0, .ref v0), (1, .ref v1)]) (st' := []) rfl ?_
      exact xZ.sub (xsc (.tail _ (.head _)) (xsc (.tail _ (.tail _ (.head _))) (xsc (.head _) xsn))) (show ([2, 0, 1] : List Nat).Nodup from by decide) (k_f_Hall_copyFrom_28 O f d f v0 v1 (0 : Int32) M)
    · skip
      refine xZ.adv (me := xm24) hP_24 2 (pc' := 9) (lv' := [(0, .ref v0), (1, .ref v1), (2, .int v2)]) (st' := [.int v2, .ref v0]) rfl ?_
      refine xZ.callv (κ := oR) (av := [.int v2]) (rest := []) (st' := fun x1 => [.ref x1]) (k0 := v0) (me := xm24) hP_24 rfl (Or.inl rfl) ⟨rfl, by decide⟩ rfl rfl (Nat.le_of_ble_eq_true rfl) (by decide) hP_21 (Nat.le_of_ble_eq_true rfl) (fun _ => rfl) (k_f_Hall_anyZone O f (d + 2) v0 v2 M) (fun x1 M1 => ?_)
      refine xZ.adv (me := xm24) hP_24 2 (pc' := 14) (lv' := [(0, .ref v0), (1, .ref v1), (2, .int v2)]) (st' := [.int v2, .ref v1, .ref x1]) rfl ?_
      refine xZ.callv (κ := oR) (av := [.int v2]) (rest := [.ref x1]) (st' := fun x2 => [.ref x2, .ref x1]) (k0 := v1) (me := xm24) hP_24 rfl (Or.inl rfl) ⟨rfl, by decide⟩ rfl rfl (Nat.le_of_ble_eq_true rfl) (by decide) hP_21 (Nat.le_of_ble_eq_true rfl) (fun _ => rfl) (k_f_Hall_anyZone O f (d + 2) v1 v2 M1) (fun x2 M2 => ?_)
      refine xZ.callv (κ := oU) (av := [.ref x2]) (rest := []) (st' := fun _ => []) (k0 := x1) (me := xm24) hP_24 rfl (Or.inl rfl) ⟨rfl, by decide⟩ rfl rfl (Nat.le_of_ble_eq_true rfl) (by decide) hP_25 (Nat.le_of_ble_eq_true rfl) (fun _ => rfl) (k_f_Zone_copyFrom O f (d + 2) x1 x2 M2) (fun _ M3 => ?_)
      refine xZ.adv (me := xm24) hP_24 2 (pc' := 2) (lv' := [(2, .int (v2 + (1 : Int32))), (0, .ref v0), (1, .ref v1)]) (st' := []) rfl ?_
      exact xZ.sub (xsc (.tail _ (.head _)) (xsc (.tail _ (.tail _ (.head _))) (xsc (.head _) xsn))) (show ([2, 0, 1] : List Nat).Nodup from by decide) (ih v0 v1 (v2 + (1 : Int32)) M3)
def f_Hall_copyFrom (O : Nat → Option va_E) (f : Nat) (v0 : Nat) (v1 : Nat) (M : xM) : Option (Unit × xM) :=
  f_Hall_copyFrom_2 O f f v0 v1 (0 : Int32) M
set_option maxRecDepth 20000 in
theorem k_f_Hall_copyFrom (O : Nat → Option va_E) (f d : Nat) (v0 : Nat) (v1 : Nat) (M : xM) : xZ oU O (d + 3) 24 0 [(0, .ref v0), (1, .ref v1)] [] M (f_Hall_copyFrom O f v0 v1 M) := by
  unfold f_Hall_copyFrom
  refine xZ.adv (me := xm24) hP_24 2 (pc' := 2) (lv' := [(2, .int (0 : Int32)), (0, .ref v0), (1, .ref v1)]) (st' := []) rfl ?_
  exact xZ.sub (xsc (.tail _ (.head _)) (xsc (.tail _ (.tail _ (.head _))) (xsc (.head _) xsn))) (show ([2, 0, 1] : List Nat).Nodup from by decide) (k_f_Hall_copyFrom_2 O f d f v0 v1 (0 : Int32) M)
def f_Calendarhall_saveForUndo_67 (O : Nat → Option va_E) (f : Nat) (v0 : Nat) (s0 : Nat) (s1 : Int32) (M : xM) : Option (Unit × xM) :=
  (pI M s0 12 2 s1).bind fun M1 =>
  (gI O M1 v0 12 3).bind fun x1 =>
  if (8 : Int32) ≤ x1 then (
    some ((), M1)
  ) else
  (gI O M1 v0 12 3).bind fun x2 =>
  (pI M1 v0 12 3 (x2 + (1 : Int32))).bind fun M2 =>
  some ((), M2)
set_option maxRecDepth 20000 in
theorem k_f_Calendarhall_saveForUndo_67 (O : Nat → Option va_E) (f d : Nat) (v0 : Nat) (s0 : Nat) (s1 : Int32) (M : xM) : xZ oU O (d + 4) 23 67 [(0, .ref v0)] [.int s1, .ref s0] M (f_Calendarhall_saveForUndo_67 O f v0 s0 s1 M) := by
  unfold f_Calendarhall_saveForUndo_67
  refine xZ.k_pI (me := xm23) hP_23 rfl (fun M1 => ?_)
  refine xZ.adv (me := xm23) hP_23 1 (pc' := 71) (lv' := [(0, .ref v0)]) (st' := [.ref v0]) rfl ?_
  refine xZ.k_gI (me := xm23) hP_23 rfl (fun x1 => ?_)
  refine xZ.adv (me := xm23) hP_23 1 (pc' := 76) (lv' := [(0, .ref v0)]) (st' := [.int (8 : Int32), .int x1]) rfl ?_
  refine xZ.ic_ge (me := xm23) hP_23 rfl (fun h1 => ?_) (fun h1 => ?_)
  · skip
    exact xZ.retu (me := xm23) hP_23 rfl rfl
  · skip
    refine xZ.adv (me := xm23) hP_23 2 (pc' := 81) (lv' := [(0, .ref v0)]) (st' := [.ref v0, .ref v0]) rfl ?_
    refine xZ.k_gI (me := xm23) hP_23 rfl (fun x2 => ?_)
    refine xZ.adv (me := xm23) hP_23 2 (pc' := 86) (lv' := [(0, .ref v0)]) (st' := [.int (x2 + (1 : Int32)), .ref v0]) rfl ?_
    refine xZ.k_pI (me := xm23) hP_23 rfl (fun M2 => ?_)
    exact xZ.retu (me := xm23) hP_23 rfl rfl
def f_Calendarhall_saveForUndo_45 (O : Nat → Option va_E) (f : Nat) (v0 : Nat) (M : xM) : Option (Unit × xM) :=
  (gI O M v0 12 2).bind fun x1 =>
  if (8 : Int32) ≤ (x1 + (1 : Int32)) then (
    f_Calendarhall_saveForUndo_67 O f v0 v0 (0 : Int32) M
  ) else
  (gI O M v0 12 2).bind fun x2 =>
  f_Calendarhall_saveForUndo_67 O f v0 v0 (x2 + (1 : Int32)) M
set_option maxRecDepth 20000 in
theorem k_f_Calendarhall_saveForUndo_45 (O : Nat → Option va_E) (f d : Nat) (v0 : Nat) (M : xM) : xZ oU O (d + 4) 23 45 [(0, .ref v0)] [] M (f_Calendarhall_saveForUndo_45 O f v0 M) := by
  unfold f_Calendarhall_saveForUndo_45
  refine xZ.adv (me := xm23) hP_23 2 (pc' := 47) (lv' := [(0, .ref v0)]) (st' := [.ref v0, .ref v0]) rfl ?_
  refine xZ.k_gI (me := xm23) hP_23 rfl (fun x1 => ?_)
  refine xZ.adv (me := xm23) hP_23 3 (pc' := 54) (lv' := [(0, .ref v0)]) (st' := [.int (8 : Int32), .int (x1 + (1 : Int32)), .ref v0]) rfl ?_
  refine xZ.ic_ge (me := xm23) hP_23 rfl (fun h1 => ?_) (fun h1 => ?_)
  · skip
    refine xZ.adv (me := xm23) hP_23 1 (pc' := 67) (lv' := [(0, .ref v0)]) (st' := [.int (0 : Int32), .ref v0]) rfl ?_
    exact (k_f_Calendarhall_saveForUndo_67 O f d v0 v0 (0 : Int32) M)
  · skip
    refine xZ.adv (me := xm23) hP_23 1 (pc' := 58) (lv' := [(0, .ref v0)]) (st' := [.ref v0, .ref v0]) rfl ?_
    refine xZ.k_gI (me := xm23) hP_23 rfl (fun x2 => ?_)
    refine xZ.adv (me := xm23) hP_23 3 (pc' := 67) (lv' := [(0, .ref v0)]) (st' := [.int (x2 + (1 : Int32)), .ref v0]) rfl ?_
    exact (k_f_Calendarhall_saveForUndo_67 O f d v0 v0 (x2 + (1 : Int32)) M)
def f_Calendarhall_saveForUndo_32 (O : Nat → Option va_E) (f : Nat) (v0 : Nat) (s0 : Option Nat) (M : xM) : Option (Unit × xM) :=
  Option.elim s0 (
    f_Calendarhall_saveForUndo_45 O f v0 M
  ) fun x1 =>
    (gR O M v0 12 0).bind fun x2 =>
    (isO O M x1 4).bind fun _ =>
    xcl (f_Hall_copyFrom O f x1 x2 M) fun _ M1 =>
    f_Calendarhall_saveForUndo_45 O f v0 M1
set_option maxRecDepth 20000 in
theorem k_f_Calendarhall_saveForUndo_32 (O : Nat → Option va_E) (f d : Nat) (v0 : Nat) (s0 : Option Nat) (M : xM) : xZ oU O (d + 4) 23 32 [(0, .ref v0)] [va_rf s0] M (f_Calendarhall_saveForUndo_32 O f v0 s0 M) := by
  unfold f_Calendarhall_saveForUndo_32
  refine xZ.oc (x := s0) (lvf := fun _ => [(0, .ref v0)]) (stf := fun xo => [va_rf xo]) ?_ (fun x1 => ?_)
  · skip
    refine xZ.adv (me := xm23) hP_23 2 (pc' := 34) (lv' := [(1, .null), (0, .ref v0)]) (st' := [.null]) rfl ?_
    refine xZ.one (pc' := 45) (lv' := [(1, .null), (0, .ref v0)]) (st' := []) (me := xm23) hP_23 rfl rfl ?_
    exact xZ.sub (xsc (.tail _ (.head _)) xsn) (show ([1, 0] : List Nat).Nodup from by decide) (k_f_Calendarhall_saveForUndo_45 O f d v0 M)
  · skip
    refine xZ.adv (me := xm23) hP_23 2 (pc' := 34) (lv' := [(1, .ref x1), (0, .ref v0)]) (st' := [.ref x1]) rfl ?_
    refine xZ.one (pc' := 37) (lv' := [(1, .ref x1), (0, .ref v0)]) (st' := []) (me := xm23) hP_23 rfl rfl ?_
    refine xZ.adv (me := xm23) hP_23 2 (pc' := 39) (lv' := [(1, .ref x1), (0, .ref v0)]) (st' := [.ref v0, .ref x1]) rfl ?_
    refine xZ.k_gR (me := xm23) hP_23 rfl (fun x2 => ?_)
    refine xZ.callv (κ := oU) (av := [.ref x2]) (rest := []) (st' := fun _ => []) (k0 := x1) (me := xm23) hP_23 rfl (Or.inl rfl) ⟨rfl, by decide⟩ rfl rfl (Nat.le_of_ble_eq_true rfl) (by decide) hP_24 (Nat.le_of_ble_eq_true rfl) (fun _ => rfl) (k_f_Hall_copyFrom O f (d + 0) x1 x2 M) (fun _ M1 => ?_)
    exact xZ.sub (xsc (.tail _ (.head _)) xsn) (show ([1, 0] : List Nat).Nodup from by decide) (k_f_Calendarhall_saveForUndo_45 O f d v0 M1)
def f_Calendarhall_saveForUndo_31 (O : Nat → Option va_E) (f : Nat) (v0 : Nat) (M : xM) : Option (Unit × xM) :=
  f_Calendarhall_saveForUndo_32 O f v0 none M
set_option maxRecDepth 20000 in
theorem k_f_Calendarhall_saveForUndo_31 (O : Nat → Option va_E) (f d : Nat) (v0 : Nat) (M : xM) : xZ oU O (d + 4) 23 31 [(0, .ref v0)] [] M (f_Calendarhall_saveForUndo_31 O f v0 M) := by
  unfold f_Calendarhall_saveForUndo_31
  refine xZ.adv (me := xm23) hP_23 1 (pc' := 32) (lv' := [(0, .ref v0)]) (st' := [.null]) rfl ?_
  exact (k_f_Calendarhall_saveForUndo_32 O f d v0 none M)
def f_Calendarhall_saveForUndo (O : Nat → Option va_E) (f : Nat) (v0 : Nat) (M : xM) : Option (Unit × xM) :=
  (gI O M v0 12 2).bind fun x1 =>
  if x1 < 0 then (
    f_Calendarhall_saveForUndo_31 O f v0 M
  ) else
  (gI O M v0 12 2).bind fun x2 =>
  (gR O M v0 12 1).bind fun x3 =>
  (aN O M x3).bind fun x4 =>
  if x4 ≤ x2 then (
    f_Calendarhall_saveForUndo_31 O f v0 M
  ) else
  (gR O M v0 12 1).bind fun x5 =>
  (gI O M v0 12 2).bind fun x6 =>
  (aR O M x5 x6).bind fun x7 =>
  f_Calendarhall_saveForUndo_32 O f v0 (some x7) M
set_option maxRecDepth 20000 in
theorem k_f_Calendarhall_saveForUndo (O : Nat → Option va_E) (f d : Nat) (v0 : Nat) (M : xM) : xZ oU O (d + 4) 23 0 [(0, .ref v0)] [] M (f_Calendarhall_saveForUndo O f v0 M) := by
  unfold f_Calendarhall_saveForUndo
  refine xZ.adv (me := xm23) hP_23 1 (pc' := 1) (lv' := [(0, .ref v0)]) (st' := [.ref v0]) rfl ?_
  refine xZ.k_gI (me := xm23) hP_23 rfl (fun x1 => ?_)
  refine xZ.if_lt (me := xm23) hP_23 rfl (fun h1 => ?_) (fun h1 => ?_)
  · skip
    exact (k_f_Calendarhall_saveForUndo_31 O f d v0 M)
  · skip
    refine xZ.adv (me := xm23) hP_23 1 (pc' := 8) (lv' := [(0, .ref v0)]) (st' := [.ref v0]) rfl ?_
    refine xZ.k_gI (me := xm23) hP_23 rfl (fun x2 => ?_)
    refine xZ.adv (me := xm23) hP_23 1 (pc' := 12) (lv' := [(0, .ref v0)]) (st' := [.ref v0, .int x2]) rfl ?_
    refine xZ.k_gR (me := xm23) hP_23 rfl (fun x3 => ?_)
    refine xZ.k_aN (me := xm23) hP_23 rfl (fun x4 => ?_)
    refine xZ.ic_ge (me := xm23) hP_23 rfl (fun h2 => ?_) (fun h2 => ?_)
    · skip
      exact (k_f_Calendarhall_saveForUndo_31 O f d v0 M)
    · skip
      refine xZ.adv (me := xm23) hP_23 1 (pc' := 20) (lv' := [(0, .ref v0)]) (st' := [.ref v0]) rfl ?_
      refine xZ.k_gR (me := xm23) hP_23 rfl (fun x5 => ?_)
      refine xZ.adv (me := xm23) hP_23 1 (pc' := 24) (lv' := [(0, .ref v0)]) (st' := [.ref v0, .ref x5]) rfl ?_
      refine xZ.k_gI (me := xm23) hP_23 rfl (fun x6 => ?_)
      refine xZ.k_aR (me := xm23) hP_23 rfl (fun x7 => ?_)
      refine xZ.adv (me := xm23) hP_23 1 (pc' := 32) (lv' := [(0, .ref v0)]) (st' := [.ref x7]) rfl ?_
      exact (k_f_Calendarhall_saveForUndo_32 O f d v0 (some x7) M)
def f_Calendarhall_setZone (O : Nat → Option va_E) (f : Nat) (v0 : Nat) (v1 : Int32) (v2 : Int32) (v3 : Int32) (M : xM) : Option (Int32 × xM) :=
  (isO O M v0 12).bind fun _ =>
  xcl (f_Calendarhall_zoneNumbered O f v0 v1 M) fun x1 M1 =>
  xcl (f_Calendarhall_needRange O f v2 (-720 : Int32) (840 : Int32) M1) fun _ M2 =>
  xcl (f_Calendarhall_needRange O f v3 (0 : Int32) (120 : Int32) M2) fun _ M3 =>
  if (v2 - v2 / (15 : Int32) * (15 : Int32)) = 0 then (
    if (v3 - v3 / (15 : Int32) * (15 : Int32)) = 0 then (
      (gI O M3 x1 11 0).bind fun x4 =>
      (isO O M3 v0 12).bind fun _ =>
      xcl (f_Calendarhall_saveForUndo O f v0 M3) fun _ M4 =>
      (pI M4 x1 11 0 v2).bind fun M5 =>
      (pI M5 x1 11 1 v3).bind fun M6 =>
      some (x4, M6)
    ) else
    none
  ) else
  none
set_option maxRecDepth 20000 in
theorem k_f_Calendarhall_setZone (O : Nat → Option va_E) (f d : Nat) (v0 : Nat) (v1 : Int32) (v2 : Int32) (v3 : Int32) (M : xM) : xZ oI O (d + 5) 19 0 [(0, .ref v0), (1, .int v1), (2, .int v2), (3, .int v3)] [] M (f_Calendarhall_setZone O f v0 v1 v2 v3 M) := by
  unfold f_Calendarhall_setZone
  refine xZ.adv (me := xm19) hP_19 2 (pc' := 2) (lv' := [(0, .ref v0), (1, .int v1), (2, .int v2), (3, .int v3)]) (st' := [.int v1, .ref v0]) rfl ?_
  refine xZ.callv (κ := oR) (av := [.int v1]) (rest := []) (st' := fun x1 => [.ref x1]) (k0 := v0) (me := xm19) hP_19 rfl (Or.inl rfl) ⟨rfl, by decide⟩ rfl rfl (Nat.le_of_ble_eq_true rfl) (by decide) hP_20 (Nat.le_of_ble_eq_true rfl) (fun _ => rfl) (k_f_Calendarhall_zoneNumbered O f (d + 3) v0 v1 M) (fun x1 M1 => ?_)
  refine xZ.adv (me := xm19) hP_19 4 (pc' := 14) (lv' := [(4, .ref x1), (0, .ref v0), (1, .int v1), (2, .int v2), (3, .int v3)]) (st' := [.int (840 : Int32), .int (-720 : Int32), .int v2]) rfl ?_
  refine xZ.calls (κ := oU) (av := [.int v2, .int (-720 : Int32), .int (840 : Int32)]) (rest := []) (st' := fun _ => []) (me := xm19) hP_19 rfl rfl rfl (Nat.le_of_ble_eq_true rfl) (by decide) hP_22 (Nat.le_of_ble_eq_true rfl) (fun _ => rfl) (k_f_Calendarhall_needRange O f (d + 4) v2 (-720 : Int32) (840 : Int32) M1) (fun _ M2 => ?_)
  refine xZ.adv (me := xm19) hP_19 3 (pc' := 21) (lv' := [(4, .ref x1), (0, .ref v0), (1, .int v1), (2, .int v2), (3, .int v3)]) (st' := [.int (120 : Int32), .int (0 : Int32), .int v3]) rfl ?_
  refine xZ.calls (κ := oU) (av := [.int v3, .int (0 : Int32), .int (120 : Int32)]) (rest := []) (st' := fun _ => []) (me := xm19) hP_19 rfl rfl rfl (Nat.le_of_ble_eq_true rfl) (by decide) hP_22 (Nat.le_of_ble_eq_true rfl) (fun _ => rfl) (k_f_Calendarhall_needRange O f (d + 4) v3 (0 : Int32) (120 : Int32) M2) (fun _ M3 => ?_)
  refine xZ.adv (me := xm19) hP_19 3 (pc' := 28) (lv' := [(4, .ref x1), (0, .ref v0), (1, .int v1), (2, .int v2), (3, .int v3)]) (st' := [.int (v2 - v2 / (15 : Int32) * (15 : Int32))]) rfl ?_
  refine xZ.if_ne (me := xm19) hP_19 rfl (fun h1 => ?_) (fun h1 => ?_)
  · skip
    refine xZ.adv (me := xm19) hP_19 3 (pc' := 35) (lv' := [(4, .ref x1), (0, .ref v0), (1, .int v1), (2, .int v2), (3, .int v3)]) (st' := [.int (v3 - v3 / (15 : Int32) * (15 : Int32))]) rfl ?_
    refine xZ.if_eq (me := xm19) hP_19 rfl (fun h2 => ?_) (fun h2 => ?_)
    · skip
      refine xZ.adv (me := xm19) hP_19 1 (pc' := 48) (lv' := [(4, .ref x1), (0, .ref v0), (1, .int v1), (2, .int v2), (3, .int v3)]) (st' := [.ref x1]) rfl ?_
      refine xZ.k_gI (me := xm19) hP_19 rfl (fun x4 => ?_)
      refine xZ.adv (me := xm19) hP_19 2 (pc' := 54) (lv' := [(5, .int x4), (4, .ref x1), (0, .ref v0), (1, .int v1), (2, .int v2), (3, .int v3)]) (st' := [.ref v0]) rfl ?_
      refine xZ.callv (κ := oU) (av := []) (rest := []) (st' := fun _ => []) (k0 := v0) (me := xm19) hP_19 rfl (Or.inl rfl) ⟨rfl, by decide⟩ rfl rfl (Nat.le_of_ble_eq_true rfl) (by decide) hP_23 (Nat.le_of_ble_eq_true rfl) (fun _ => rfl) (k_f_Calendarhall_saveForUndo O f (d + 0) v0 M3) (fun _ M4 => ?_)
      refine xZ.adv (me := xm19) hP_19 2 (pc' := 60) (lv' := [(5, .int x4), (4, .ref x1), (0, .ref v0), (1, .int v1), (2, .int v2), (3, .int v3)]) (st' := [.int v2, .ref x1]) rfl ?_
      refine xZ.k_pI (me := xm19) hP_19 rfl (fun M5 => ?_)
      refine xZ.adv (me := xm19) hP_19 2 (pc' := 66) (lv' := [(5, .int x4), (4, .ref x1), (0, .ref v0), (1, .int v1), (2, .int v2), (3, .int v3)]) (st' := [.int v3, .ref x1]) rfl ?_
      refine xZ.k_pI (me := xm19) hP_19 rfl (fun M6 => ?_)
      refine xZ.adv (me := xm19) hP_19 1 (pc' := 71) (lv' := [(5, .int x4), (4, .ref x1), (0, .ref v0), (1, .int v1), (2, .int v2), (3, .int v3)]) (st' := [.int x4]) rfl ?_
      exact xZ.reti (me := xm19) hP_19 rfl rfl
    · skip
      exact xZ.no
  · skip
    exact xZ.no
def f_Calendarhall_needDay (O : Nat → Option va_E) (f : Nat) (v0 : Int32) (M : xM) : Option (Unit × xM) :=
  if v0 < (10 : Int32) then (
    none
  ) else
  if v0 ≤ (146000 : Int32) then (
    some ((), M)
  ) else
  none
set_option maxRecDepth 20000 in
theorem k_f_Calendarhall_needDay (O : Nat → Option va_E) (f d : Nat) (v0 : Int32) (M : xM) : xZ oU O (d + 0) 37 0 [(0, .int v0)] [] M (f_Calendarhall_needDay O f v0 M) := by
  unfold f_Calendarhall_needDay
  refine xZ.adv (me := xm37) hP_37 2 (pc' := 3) (lv' := [(0, .int v0)]) (st' := [.int (10 : Int32), .int v0]) rfl ?_
  refine xZ.ic_lt (me := xm37) hP_37 rfl (fun h1 => ?_) (fun h1 => ?_)
  · skip
    exact xZ.no
  · skip
    refine xZ.adv (me := xm37) hP_37 2 (pc' := 9) (lv' := [(0, .int v0)]) (st' := [.int (146000 : Int32), .int v0]) rfl ?_
    refine xZ.ic_le (me := xm37) hP_37 rfl (fun h2 => ?_) (fun h2 => ?_)
    · skip
      exact xZ.retu (me := xm37) hP_37 rfl rfl
    · skip
      exact xZ.no
def f_Hall_freeSeries_2 (O : Nat → Option va_E) (f : Nat) : Nat → Nat → Int32 → xM → Option (Int32 × xM)
  | 0, _, _, _ => none
  | n + 1, v0, v1, M =>
    (gR O M v0 4 3).bind fun x1 =>
    (aN O M x1).bind fun x2 =>
    if x2 ≤ v1 then (
      some ((-1 : Int32), M)
    ) else
    (gR O M v0 4 3).bind fun x3 =>
    (aR O M x3 v1).bind fun x4 =>
    (gI O M x4 10 0).bind fun x5 =>
    if x5 = 0 then (
      some (v1, M)
    ) else
    f_Hall_freeSeries_2 O f n v0 (v1 + (1 : Int32)) M
set_option maxRecDepth 20000 in
theorem k_f_Hall_freeSeries_2 (O : Nat → Option va_E) (f d : Nat) : ∀ (n : Nat) (v0 : Nat) (v1 : Int32) (M : xM), xZ oI O (d + 0) 38 2 [(0, .ref v0), (1, .int v1)] [] M (f_Hall_freeSeries_2 O f n v0 v1 M) := by
  intro n
  induction n with
  | zero =>
    intro v0 v1 M
    exact xZ.no
  | succ n ih =>
    intro v0 v1 M
    unfold f_Hall_freeSeries_2
    refine xZ.adv (me := xm38) hP_38 2 (pc' := 4) (lv' := [(0, .ref v0), (1, .int v1)]) (st' := [.ref v0, .int v1]) rfl ?_
    refine xZ.k_gR (me := xm38) hP_38 rfl (fun x1 => ?_)
    refine xZ.k_aN (me := xm38) hP_38 rfl (fun x2 => ?_)
    refine xZ.ic_ge (me := xm38) hP_38 rfl (fun h1 => ?_) (fun h1 => ?_)
    · skip
      refine xZ.adv (me := xm38) hP_38 1 (pc' := 32) (lv' := [(0, .ref v0), (1, .int v1)]) (st' := [.int (-1 : Int32)]) rfl ?_
      exact xZ.reti (me := xm38) hP_38 rfl rfl
    · skip
      refine xZ.adv (me := xm38) hP_38 1 (pc' := 12) (lv' := [(0, .ref v0), (1, .int v1)]) (st' := [.ref v0]) rfl ?_
      refine xZ.k_gR (me := xm38) hP_38 rfl (fun x3 => ?_)
      refine xZ.adv (me := xm38) hP_38 1 (pc' := 16) (lv' := [(0, .ref v0), (1, .int v1)]) (st' := [.int v1, .ref x3]) rfl ?_
      refine xZ.k_aR (me := xm38) hP_38 rfl (fun x4 => ?_)
      refine xZ.k_gI (me := xm38) hP_38 rfl (fun x5 => ?_)
      refine xZ.if_ne (me := xm38) hP_38 rfl (fun h2 => ?_) (fun h2 => ?_)
      · skip
        refine xZ.adv (me := xm38) hP_38 1 (pc' := 24) (lv' := [(0, .ref v0), (1, .int v1)]) (st' := [.int v1]) rfl ?_
        exact xZ.reti (me := xm38) hP_38 rfl rfl
      · skip
        refine xZ.adv (me := xm38) hP_38 2 (pc' := 2) (lv' := [(1, .int (v1 + (1 : Int32))), (0, .ref v0)]) (st' := []) rfl ?_
        exact xZ.sub (xsc (.tail _ (.head _)) (xsc (.head _) xsn)) (show ([1, 0] : List Nat).Nodup from by decide) (ih v0 (v1 + (1 : Int32)) M)
def f_Hall_freeSeries (O : Nat → Option va_E) (f : Nat) (v0 : Nat) (M : xM) : Option (Int32 × xM) :=
  f_Hall_freeSeries_2 O f f v0 (0 : Int32) M
set_option maxRecDepth 20000 in
theorem k_f_Hall_freeSeries (O : Nat → Option va_E) (f d : Nat) (v0 : Nat) (M : xM) : xZ oI O (d + 0) 38 0 [(0, .ref v0)] [] M (f_Hall_freeSeries O f v0 M) := by
  unfold f_Hall_freeSeries
  refine xZ.adv (me := xm38) hP_38 2 (pc' := 2) (lv' := [(1, .int (0 : Int32)), (0, .ref v0)]) (st' := []) rfl ?_
  exact xZ.sub (xsc (.tail _ (.head _)) (xsc (.head _) xsn)) (show ([1, 0] : List Nat).Nodup from by decide) (k_f_Hall_freeSeries_2 O f d f v0 (0 : Int32) M)
def f_Series_putAnswer (O : Nat → Option va_E) (f : Nat) (v0 : Nat) (v1 : Int32) (v2 : Int32) (M : xM) : Option (Unit × xM) :=
  if v1 < 0 then (
    some ((), M)
  ) else
  (gR O M v0 10 10).bind fun x1 =>
  (aN O M x1).bind fun x2 =>
  if x2 ≤ v1 then (
    some ((), M)
  ) else
  (gR O M v0 10 10).bind fun x3 =>
  (wI M x3 v1 v2).bind fun M1 =>
  some ((), M1)
set_option maxRecDepth 20000 in
theorem k_f_Series_putAnswer (O : Nat → Option va_E) (f d : Nat) (v0 : Nat) (v1 : Int32) (v2 : Int32) (M : xM) : xZ oU O (d + 0) 41 0 [(0, .ref v0), (1, .int v1), (2, .int v2)] [] M (f_Series_putAnswer O f v0 v1 v2 M) := by
  unfold f_Series_putAnswer
  refine xZ.adv (me := xm41) hP_41 1 (pc' := 1) (lv' := [(0, .ref v0), (1, .int v1), (2, .int v2)]) (st' := [.int v1]) rfl ?_
  refine xZ.if_lt (me := xm41) hP_41 rfl (fun h1 => ?_) (fun h1 => ?_)
  · skip
    exact xZ.retu (me := xm41) hP_41 rfl rfl
  · skip
    refine xZ.adv (me := xm41) hP_41 2 (pc' := 6) (lv' := [(0, .ref v0), (1, .int v1), (2, .int v2)]) (st' := [.ref v0, .int v1]) rfl ?_
    refine xZ.k_gR (me := xm41) hP_41 rfl (fun x1 => ?_)
    refine xZ.k_aN (me := xm41) hP_41 rfl (fun x2 => ?_)
    refine xZ.ic_ge (me := xm41) hP_41 rfl (fun h2 => ?_) (fun h2 => ?_)
    · skip
      exact xZ.retu (me := xm41) hP_41 rfl rfl
    · skip
      refine xZ.adv (me := xm41) hP_41 1 (pc' := 14) (lv' := [(0, .ref v0), (1, .int v1), (2, .int v2)]) (st' := [.ref v0]) rfl ?_
      refine xZ.k_gR (me := xm41) hP_41 rfl (fun x3 => ?_)
      refine xZ.adv (me := xm41) hP_41 2 (pc' := 19) (lv' := [(0, .ref v0), (1, .int v1), (2, .int v2)]) (st' := [.int v2, .int v1, .ref x3]) rfl ?_
      refine xZ.k_wI (me := xm41) hP_41 rfl (fun M1 => ?_)
      exact xZ.retu (me := xm41) hP_41 rfl rfl
def f_Series_putCounter (O : Nat → Option va_E) (f : Nat) (v0 : Nat) (v1 : Int32) (v2 : Int32) (M : xM) : Option (Unit × xM) :=
  if v1 < 0 then (
    some ((), M)
  ) else
  (gR O M v0 10 11).bind fun x1 =>
  (aN O M x1).bind fun x2 =>
  if x2 ≤ v1 then (
    some ((), M)
  ) else
  (gR O M v0 10 11).bind fun x3 =>
  (wI M x3 v1 v2).bind fun M1 =>
  some ((), M1)
set_option maxRecDepth 20000 in
theorem k_f_Series_putCounter (O : Nat → Option va_E) (f d : Nat) (v0 : Nat) (v1 : Int32) (v2 : Int32) (M : xM) : xZ oU O (d + 0) 42 0 [(0, .ref v0), (1, .int v1), (2, .int v2)] [] M (f_Series_putCounter O f v0 v1 v2 M) := by
  unfold f_Series_putCounter
  refine xZ.adv (me := xm42) hP_42 1 (pc' := 1) (lv' := [(0, .ref v0), (1, .int v1), (2, .int v2)]) (st' := [.int v1]) rfl ?_
  refine xZ.if_lt (me := xm42) hP_42 rfl (fun h1 => ?_) (fun h1 => ?_)
  · skip
    exact xZ.retu (me := xm42) hP_42 rfl rfl
  · skip
    refine xZ.adv (me := xm42) hP_42 2 (pc' := 6) (lv' := [(0, .ref v0), (1, .int v1), (2, .int v2)]) (st' := [.ref v0, .int v1]) rfl ?_
    refine xZ.k_gR (me := xm42) hP_42 rfl (fun x1 => ?_)
    refine xZ.k_aN (me := xm42) hP_42 rfl (fun x2 => ?_)
    refine xZ.ic_ge (me := xm42) hP_42 rfl (fun h2 => ?_) (fun h2 => ?_)
    · skip
      exact xZ.retu (me := xm42) hP_42 rfl rfl
    · skip
      refine xZ.adv (me := xm42) hP_42 1 (pc' := 14) (lv' := [(0, .ref v0), (1, .int v1), (2, .int v2)]) (st' := [.ref v0]) rfl ?_
      refine xZ.k_gR (me := xm42) hP_42 rfl (fun x3 => ?_)
      refine xZ.adv (me := xm42) hP_42 2 (pc' := 19) (lv' := [(0, .ref v0), (1, .int v1), (2, .int v2)]) (st' := [.int v2, .int v1, .ref x3]) rfl ?_
      refine xZ.k_wI (me := xm42) hP_42 rfl (fun M1 => ?_)
      exact xZ.retu (me := xm42) hP_42 rfl rfl
def f_Series_forgetAnswers_2 (O : Nat → Option va_E) (f : Nat) : Nat → Nat → Int32 → xM → Option (Unit × xM)
  | 0, _, _, _ => none
  | n + 1, v0, v1, M =>
    if (8 : Int32) ≤ v1 then (
      some ((), M)
    ) else
    (isO O M v0 10).bind fun _ =>
    xcl (f_Series_putAnswer O f v0 v1 (0 : Int32) M) fun _ M1 =>
    (isO O M1 v0 10).bind fun _ =>
    xcl (f_Series_putCounter O f v0 v1 (-1 : Int32) M1) fun _ M2 =>
    f_Series_forgetAnswers_2 O f n v0 (v1 + (1 : Int32)) M2
set_option maxRecDepth 20000 in
theorem k_f_Series_forgetAnswers_2 (O : Nat → Option va_E) (f d : Nat) : ∀ (n : Nat) (v0 : Nat) (v1 : Int32) (M : xM), xZ oU O (d + 1) 40 2 [(0, .ref v0), (1, .int v1)] [] M (f_Series_forgetAnswers_2 O f n v0 v1 M) := by
  intro n
  induction n with
  | zero =>
    intro v0 v1 M
    exact xZ.no
  | succ n ih =>
    intro v0 v1 M
    unfold f_Series_forgetAnswers_2
    refine xZ.adv (me := xm40) hP_40 2 (pc' := 5) (lv' := [(0, .ref v0), (1, .int v1)]) (st' := [.int (8 : Int32), .int v1]) rfl ?_
    refine xZ.ic_ge (me := xm40) hP_40 rfl (fun h1 => ?_) (fun h1 => ?_)
    · skip
      exact xZ.retu (me := xm40) hP_40 rfl rfl
    · skip
      refine xZ.adv (me := xm40) hP_40 3 (pc' := 11) (lv' := [(0, .ref v0), (1, .int v1)]) (st' := [.int (0 : Int32), .int v1, .ref v0]) rfl ?_
      refine xZ.callv (κ := oU) (av := [.int v1, .int (0 : Int32)]) (rest := []) (st' := fun _ => []) (k0 := v0) (me := xm40) hP_40 rfl (Or.inl rfl) ⟨rfl, by decide⟩ rfl rfl (Nat.le_of_ble_eq_true rfl) (by decide) hP_41 (Nat.le_of_ble_eq_true rfl) (fun _ => rfl) (k_f_Series_putAnswer O f (d + 0) v0 v1 (0 : Int32) M) (fun _ M1 => ?_)
      refine xZ.adv (me := xm40) hP_40 3 (pc' := 17) (lv' := [(0, .ref v0), (1, .int v1)]) (st' := [.int (-1 : Int32), .int v1, .ref v0]) rfl ?_
      refine xZ.callv (κ := oU) (av := [.int v1, .int (-1 : Int32)]) (rest := []) (st' := fun _ => []) (k0 := v0) (me := xm40) hP_40 rfl (Or.inl rfl) ⟨rfl, by decide⟩ rfl rfl (Nat.le_of_ble_eq_true rfl) (by decide) hP_42 (Nat.le_of_ble_eq_true rfl) (fun _ => rfl) (k_f_Series_putCounter O f (d + 0) v0 v1 (-1 : Int32) M1) (fun _ M2 => ?_)
      refine xZ.adv (me := xm40) hP_40 2 (pc' := 2) (lv' := [(1, .int (v1 + (1 : Int32))), (0, .ref v0)]) (st' := []) rfl ?_
      exact xZ.sub (xsc (.tail _ (.head _)) (xsc (.head _) xsn)) (show ([1, 0] : List Nat).Nodup from by decide) (ih v0 (v1 + (1 : Int32)) M2)
def f_Series_forgetAnswers (O : Nat → Option va_E) (f : Nat) (v0 : Nat) (M : xM) : Option (Unit × xM) :=
  f_Series_forgetAnswers_2 O f f v0 (0 : Int32) M
set_option maxRecDepth 20000 in
theorem k_f_Series_forgetAnswers (O : Nat → Option va_E) (f d : Nat) (v0 : Nat) (M : xM) : xZ oU O (d + 1) 40 0 [(0, .ref v0)] [] M (f_Series_forgetAnswers O f v0 M) := by
  unfold f_Series_forgetAnswers
  refine xZ.adv (me := xm40) hP_40 2 (pc' := 2) (lv' := [(1, .int (0 : Int32)), (0, .ref v0)]) (st' := []) rfl ?_
  exact xZ.sub (xsc (.tail _ (.head _)) (xsc (.head _) xsn)) (show ([1, 0] : List Nat).Nodup from by decide) (k_f_Series_forgetAnswers_2 O f d f v0 (0 : Int32) M)
def f_Series_start (O : Nat → Option va_E) (f : Nat) (v0 : Nat) (v1 : Int32) (v2 : Int32) (M : xM) : Option (Unit × xM) :=
  (pI M v0 10 0 (1 : Int32)).bind fun M1 =>
  (pI M1 v0 10 1 v1).bind fun M2 =>
  (gR O M2 v0 10 6).bind fun x1 =>
  (isO O M2 x1 9).bind fun _ =>
  xcl (f_Rule_put O f x1 (0 : Int32) (0 : Int32) (0 : Int32) (0 : Int32) M2) fun _ M3 =>
  (gR O M3 v0 10 6).bind fun x3 =>
  (isO O M3 x3 9).bind fun _ =>
  xcl (f_Rule_putEnd O f x3 (0 : Int32) (0 : Int32) M3) fun _ M4 =>
  (gR O M4 v0 10 6).bind fun x5 =>
  (pI M4 x5 9 0 v2).bind fun M5 =>
  (pI M5 v0 10 7 (0 : Int32)).bind fun M6 =>
  (isO O M6 v0 10).bind fun _ =>
  xcl (f_Series_forgetAnswers O f v0 M6) fun _ M7 =>
  some ((), M7)
set_option maxRecDepth 20000 in
theorem k_f_Series_start (O : Nat → Option va_E) (f d : Nat) (v0 : Nat) (v1 : Int32) (v2 : Int32) (M : xM) : xZ oU O (d + 2) 39 0 [(0, .ref v0), (1, .int v1), (2, .int v2)] [] M (f_Series_start O f v0 v1 v2 M) := by
  unfold f_Series_start
  refine xZ.adv (me := xm39) hP_39 2 (pc' := 2) (lv' := [(0, .ref v0), (1, .int v1), (2, .int v2)]) (st' := [.int (1 : Int32), .ref v0]) rfl ?_
  refine xZ.k_pI (me := xm39) hP_39 rfl (fun M1 => ?_)
  refine xZ.adv (me := xm39) hP_39 2 (pc' := 7) (lv' := [(0, .ref v0), (1, .int v1), (2, .int v2)]) (st' := [.int v1, .ref v0]) rfl ?_
  refine xZ.k_pI (me := xm39) hP_39 rfl (fun M2 => ?_)
  refine xZ.adv (me := xm39) hP_39 1 (pc' := 11) (lv' := [(0, .ref v0), (1, .int v1), (2, .int v2)]) (st' := [.ref v0]) rfl ?_
  refine xZ.k_gR (me := xm39) hP_39 rfl (fun x1 => ?_)
  refine xZ.adv (me := xm39) hP_39 4 (pc' := 18) (lv' := [(0, .ref v0), (1, .int v1), (2, .int v2)]) (st' := [.int (0 : Int32), .int (0 : Int32), .int (0 : Int32), .int (0 : Int32), .ref x1]) rfl ?_
  refine xZ.callv (κ := oU) (av := [.int (0 : Int32), .int (0 : Int32), .int (0 : Int32), .int (0 : Int32)]) (rest := []) (st' := fun _ => []) (k0 := x1) (me := xm39) hP_39 rfl (Or.inl rfl) ⟨rfl, by decide⟩ rfl rfl (Nat.le_of_ble_eq_true rfl) (by decide) hP_32 (Nat.le_of_ble_eq_true rfl) (fun _ => rfl) (k_f_Rule_put O f (d + 1) x1 (0 : Int32) (0 : Int32) (0 : Int32) (0 : Int32) M2) (fun _ M3 => ?_)
  refine xZ.adv (me := xm39) hP_39 1 (pc' := 22) (lv' := [(0, .ref v0), (1, .int v1), (2, .int v2)]) (st' := [.ref v0]) rfl ?_
  refine xZ.k_gR (me := xm39) hP_39 rfl (fun x3 => ?_)
  refine xZ.adv (me := xm39) hP_39 2 (pc' := 27) (lv' := [(0, .ref v0), (1, .int v1), (2, .int v2)]) (st' := [.int (0 : Int32), .int (0 : Int32), .ref x3]) rfl ?_
  refine xZ.callv (κ := oU) (av := [.int (0 : Int32), .int (0 : Int32)]) (rest := []) (st' := fun _ => []) (k0 := x3) (me := xm39) hP_39 rfl (Or.inl rfl) ⟨rfl, by decide⟩ rfl rfl (Nat.le_of_ble_eq_true rfl) (by decide) hP_33 (Nat.le_of_ble_eq_true rfl) (fun _ => rfl) (k_f_Rule_putEnd O f (d + 1) x3 (0 : Int32) (0 : Int32) M3) (fun _ M4 => ?_)
  refine xZ.adv (me := xm39) hP_39 1 (pc' := 31) (lv' := [(0, .ref v0), (1, .int v1), (2, .int v2)]) (st' := [.ref v0]) rfl ?_
  refine xZ.k_gR (me := xm39) hP_39 rfl (fun x5 => ?_)
  refine xZ.adv (me := xm39) hP_39 1 (pc' := 35) (lv' := [(0, .ref v0), (1, .int v1), (2, .int v2)]) (st' := [.int v2, .ref x5]) rfl ?_
  refine xZ.k_pI (me := xm39) hP_39 rfl (fun M5 => ?_)
  refine xZ.adv (me := xm39) hP_39 2 (pc' := 40) (lv' := [(0, .ref v0), (1, .int v1), (2, .int v2)]) (st' := [.int (0 : Int32), .ref v0]) rfl ?_
  refine xZ.k_pI (me := xm39) hP_39 rfl (fun M6 => ?_)
  refine xZ.adv (me := xm39) hP_39 1 (pc' := 44) (lv' := [(0, .ref v0), (1, .int v1), (2, .int v2)]) (st' := [.ref v0]) rfl ?_
  refine xZ.callv (κ := oU) (av := []) (rest := []) (st' := fun _ => []) (k0 := v0) (me := xm39) hP_39 rfl (Or.inl rfl) ⟨rfl, by decide⟩ rfl rfl (Nat.le_of_ble_eq_true rfl) (by decide) hP_40 (Nat.le_of_ble_eq_true rfl) (fun _ => rfl) (k_f_Series_forgetAnswers O f (d + 0) v0 M6) (fun _ M7 => ?_)
  exact xZ.retu (me := xm39) hP_39 rfl rfl
def f_Days_weekOf (O : Nat → Option va_E) (f : Nat) (v0 : Int32) (M : xM) : Option (Int32 × xM) :=
  some (((v0 + (5 : Int32)) / (7 : Int32)), M)
set_option maxRecDepth 20000 in
theorem k_f_Days_weekOf (O : Nat → Option va_E) (f d : Nat) (v0 : Int32) (M : xM) : xZ oI O (d + 0) 47 0 [(0, .int v0)] [] M (f_Days_weekOf O f v0 M) := by
  unfold f_Days_weekOf
  refine xZ.adv (me := xm47) hP_47 5 (pc' := 6) (lv' := [(0, .int v0)]) (st' := [.int ((v0 + (5 : Int32)) / (7 : Int32))]) rfl ?_
  exact xZ.reti (me := xm47) hP_47 rfl rfl
def f_Days_weekBegin (O : Nat → Option va_E) (f : Nat) (v0 : Int32) (M : xM) : Option (Int32 × xM) :=
  some (((v0 * (7 : Int32)) - (5 : Int32)), M)
set_option maxRecDepth 20000 in
theorem k_f_Days_weekBegin (O : Nat → Option va_E) (f d : Nat) (v0 : Int32) (M : xM) : xZ oI O (d + 0) 48 0 [(0, .int v0)] [] M (f_Days_weekBegin O f v0 M) := by
  unfold f_Days_weekBegin
  refine xZ.adv (me := xm48) hP_48 5 (pc' := 6) (lv' := [(0, .int v0)]) (st' := [.int ((v0 * (7 : Int32)) - (5 : Int32))]) rfl ?_
  exact xZ.reti (me := xm48) hP_48 rfl rfl
def f_Days_weekdayOf (O : Nat → Option va_E) (f : Nat) (v0 : Int32) (M : xM) : Option (Int32 × xM) :=
  some (((v0 + (5 : Int32)) - (v0 + (5 : Int32)) / (7 : Int32) * (7 : Int32)), M)
set_option maxRecDepth 20000 in
theorem k_f_Days_weekdayOf (O : Nat → Option va_E) (f d : Nat) (v0 : Int32) (M : xM) : xZ oI O (d + 0) 49 0 [(0, .int v0)] [] M (f_Days_weekdayOf O f v0 M) := by
  unfold f_Days_weekdayOf
  refine xZ.adv (me := xm49) hP_49 5 (pc' := 6) (lv' := [(0, .int v0)]) (st' := [.int ((v0 + (5 : Int32)) - (v0 + (5 : Int32)) / (7 : Int32) * (7 : Int32))]) rfl ?_
  exact xZ.reti (me := xm49) hP_49 rfl rfl
def f_Math_floorMod (O : Nat → Option va_E) (f : Nat) (v0 : Int32) (v1 : Int32) (M : xM) : Option (Int32 × xM) :=
  if v1 = 0 then none else xlet (v0 - v0 / v1 * v1) fun x1 =>
  if 0 ≤ (v0 ^^^ v1) then (
    some (x1, M)
  ) else
  if x1 = 0 then (
    some (x1, M)
  ) else
  some ((x1 + v1), M)
set_option maxRecDepth 20000 in
theorem k_f_Math_floorMod (O : Nat → Option va_E) (f d : Nat) (v0 : Int32) (v1 : Int32) (M : xM) : xZ oI O (d + 0) 250 0 [(0, .int v0), (1, .int v1)] [] M (f_Math_floorMod O f v0 v1 M) := by
  unfold f_Math_floorMod
  refine xZ.adv (me := xm250) hP_250 2 (pc' := 2) (lv' := [(0, .int v0), (1, .int v1)]) (st' := [.int v1, .int v0]) rfl ?_
  refine xZ.rem (me := xm250) hP_250 rfl (fun x1 => ?_)
  refine xZ.adv (me := xm250) hP_250 4 (pc' := 7) (lv' := [(2, .int x1), (0, .int v0), (1, .int v1)]) (st' := [.int (v0 ^^^ v1)]) rfl ?_
  refine xZ.if_ge (me := xm250) hP_250 rfl (fun h1 => ?_) (fun h1 => ?_)
  · skip
    refine xZ.adv (me := xm250) hP_250 1 (pc' := 19) (lv' := [(2, .int x1), (0, .int v0), (1, .int v1)]) (st' := [.int x1]) rfl ?_
    exact xZ.reti (me := xm250) hP_250 rfl rfl
  · skip
    refine xZ.adv (me := xm250) hP_250 1 (pc' := 11) (lv' := [(2, .int x1), (0, .int v0), (1, .int v1)]) (st' := [.int x1]) rfl ?_
    refine xZ.if_eq (me := xm250) hP_250 rfl (fun h2 => ?_) (fun h2 => ?_)
    · skip
      refine xZ.adv (me := xm250) hP_250 1 (pc' := 19) (lv' := [(2, .int x1), (0, .int v0), (1, .int v1)]) (st' := [.int x1]) rfl ?_
      exact xZ.reti (me := xm250) hP_250 rfl rfl
    · skip
      refine xZ.adv (me := xm250) hP_250 3 (pc' := 17) (lv' := [(2, .int x1), (0, .int v0), (1, .int v1)]) (st' := [.int (x1 + v1)]) rfl ?_
      exact xZ.reti (me := xm250) hP_250 rfl rfl
def f_Rule_nextByWeeks_119 (O : Nat → Option va_E) (f : Nat) : Nat → Nat → Int32 → Int32 → xM → Option (Int32 × xM)
  | 0, _, _, _, _ => none
  | n + 1, v0, v4, v5, M =>
    if (7 : Int32) ≤ v5 then (
      some ((-1 : Int32), M)
    ) else
    (gI O M v0 9 3).bind fun x1 =>
    if ((x1 >>> (v5 &&& 31)) &&& (1 : Int32)) = (1 : Int32) then (
      some ((v4 + v5), M)
    ) else
    f_Rule_nextByWeeks_119 O f n v0 v4 (v5 + (1 : Int32)) M
set_option maxRecDepth 20000 in
theorem k_f_Rule_nextByWeeks_119 (O : Nat → Option va_E) (f d : Nat) : ∀ (n : Nat) (v0 : Nat) (v4 : Int32) (v5 : Int32) (M : xM), xZ oI O (d + 1) 46 119 [(0, .ref v0), (4, .int v4), (5, .int v5)] [] M (f_Rule_nextByWeeks_119 O f n v0 v4 v5 M) := by
  intro n
  induction n with
  | zero =>
    intro v0 v4 v5 M
    exact xZ.no
  | succ n ih =>
    intro v0 v4 v5 M
    unfold f_Rule_nextByWeeks_119
    refine xZ.adv (me := xm46) hP_46 2 (pc' := 123) (lv' := [(0, .ref v0), (4, .int v4), (5, .int v5)]) (st' := [.int (7 : Int32), .int v5]) rfl ?_
    refine xZ.ic_ge (me := xm46) hP_46 rfl (fun h1 => ?_) (fun h1 => ?_)
    · skip
      refine xZ.adv (me := xm46) hP_46 1 (pc' := 152) (lv' := [(0, .ref v0), (4, .int v4), (5, .int v5)]) (st' := [.int (-1 : Int32)]) rfl ?_
      exact xZ.reti (me := xm46) hP_46 rfl rfl
    · skip
      refine xZ.adv (me := xm46) hP_46 1 (pc' := 127) (lv' := [(0, .ref v0), (4, .int v4), (5, .int v5)]) (st' := [.ref v0]) rfl ?_
      refine xZ.k_gI (me := xm46) hP_46 rfl (fun x1 => ?_)
      refine xZ.adv (me := xm46) hP_46 5 (pc' := 136) (lv' := [(0, .ref v0), (4, .int v4), (5, .int v5)]) (st' := [.int (1 : Int32), .int ((x1 >>> (v5 &&& 31)) &&& (1 : Int32))]) rfl ?_
      refine xZ.ic_ne (me := xm46) hP_46 rfl (fun h2 => ?_) (fun h2 => ?_)
      · skip
        refine xZ.adv (me := xm46) hP_46 3 (pc' := 144) (lv' := [(0, .ref v0), (4, .int v4), (5, .int v5)]) (st' := [.int (v4 + v5)]) rfl ?_
        exact xZ.reti (me := xm46) hP_46 rfl rfl
      · skip
        refine xZ.adv (me := xm46) hP_46 2 (pc' := 119) (lv' := [(5, .int (v5 + (1 : Int32))), (0, .ref v0), (4, .int v4)]) (st' := []) rfl ?_
        exact xZ.sub (xsc (.tail _ (.head _)) (xsc (.tail _ (.tail _ (.head _))) (xsc (.head _) xsn))) (show ([5, 0, 4] : List Nat).Nodup from by decide) (ih v0 v4 (v5 + (1 : Int32)) M)
def f_Rule_nextByWeeks_110 (O : Nat → Option va_E) (f : Nat) (v0 : Nat) (s0 : Int32) (s1 : Int32) (M : xM) : Option (Int32 × xM) :=
  xcl (f_Days_weekBegin O f (s0 + s1) M) fun x1 M1 =>
  f_Rule_nextByWeeks_119 O f f v0 x1 (0 : Int32) M1
set_option maxRecDepth 20000 in
theorem k_f_Rule_nextByWeeks_110 (O : Nat → Option va_E) (f d : Nat) (v0 : Nat) (s0 : Int32) (s1 : Int32) (M : xM) : xZ oI O (d + 1) 46 110 [(0, .ref v0)] [.int s1, .int s0] M (f_Rule_nextByWeeks_110 O f v0 s0 s1 M) := by
  unfold f_Rule_nextByWeeks_110
  refine xZ.adv (me := xm46) hP_46 1 (pc' := 111) (lv' := [(0, .ref v0)]) (st' := [.int (s0 + s1)]) rfl ?_
  refine xZ.calls (κ := oI) (av := [.int (s0 + s1)]) (rest := []) (st' := fun x1 => [.int x1]) (me := xm46) hP_46 rfl rfl rfl (Nat.le_of_ble_eq_true rfl) (by decide) hP_48 (Nat.le_of_ble_eq_true rfl) (fun _ => rfl) (k_f_Days_weekBegin O f (d + 0) (s0 + s1) M) (fun x1 M1 => ?_)
  refine xZ.adv (me := xm46) hP_46 3 (pc' := 119) (lv' := [(5, .int (0 : Int32)), (4, .int x1), (0, .ref v0)]) (st' := []) rfl ?_
  exact xZ.sub (xsc (.tail _ (.tail _ (.head _))) (xsc (.tail _ (.head _)) (xsc (.head _) xsn))) (show ([5, 4, 0] : List Nat).Nodup from by decide) (k_f_Rule_nextByWeeks_119 O f d f v0 x1 (0 : Int32) M1)
def f_Rule_nextByWeeks_57 (O : Nat → Option va_E) (f : Nat) : Nat → Nat → Int32 → Int32 → Int32 → Int32 → xM → Option (Int32 × xM)
  | 0, _, _, _, _, _, _ => none
  | n + 1, v0, v2, v3, v4, v5, M =>
    if (7 : Int32) ≤ v5 then (
      if v3 = 0 then (
        (gI O M v0 9 2).bind fun x1 =>
        f_Rule_nextByWeeks_110 O f v0 (v2 + v3) x1 M
      ) else
      f_Rule_nextByWeeks_110 O f v0 (v2 + v3) (0 : Int32) M
    ) else
    (gI O M v0 9 3).bind fun x2 =>
    if ((x2 >>> (v5 &&& 31)) &&& (1 : Int32)) = (1 : Int32) then (
      xcl (f_Days_weekdayOf O f v4 M) fun x3 M1 =>
      some (((v4 + v5) - x3), M1)
    ) else
    f_Rule_nextByWeeks_57 O f n v0 v2 v3 v4 (v5 + (1 : Int32)) M
set_option maxRecDepth 20000 in
theorem k_f_Rule_nextByWeeks_57 (O : Nat → Option va_E) (f d : Nat) : ∀ (n : Nat) (v0 : Nat) (v2 : Int32) (v3 : Int32) (v4 : Int32) (v5 : Int32) (M : xM), xZ oI O (d + 1) 46 57 [(0, .ref v0), (2, .int v2), (3, .int v3), (4, .int v4), (5, .int v5)] [] M (f_Rule_nextByWeeks_57 O f n v0 v2 v3 v4 v5 M) := by
  intro n
  induction n with
  | zero =>
    intro v0 v2 v3 v4 v5 M
    exact xZ.no
  | succ n ih =>
    intro v0 v2 v3 v4 v5 M
    unfold f_Rule_nextByWeeks_57
    refine xZ.adv (me := xm46) hP_46 2 (pc' := 61) (lv' := [(0, .ref v0), (2, .int v2), (3, .int v3), (4, .int v4), (5, .int v5)]) (st' := [.int (7 : Int32), .int v5]) rfl ?_
    refine xZ.ic_ge (me := xm46) hP_46 rfl (fun h1 => ?_) (fun h1 => ?_)
    · skip
      refine xZ.adv (me := xm46) hP_46 4 (pc' := 99) (lv' := [(0, .ref v0), (2, .int v2), (3, .int v3), (4, .int v4), (5, .int v5)]) (st' := [.int v3, .int (v2 + v3)]) rfl ?_
      refine xZ.if_ne (me := xm46) hP_46 rfl (fun h2 => ?_) (fun h2 => ?_)
      · skip
        refine xZ.adv (me := xm46) hP_46 1 (pc' := 103) (lv' := [(0, .ref v0), (2, .int v2), (3, .int v3), (4, .int v4), (5, .int v5)]) (st' := [.ref v0, .int (v2 + v3)]) rfl ?_
        refine xZ.k_gI (me := xm46) hP_46 rfl (fun x1 => ?_)
        refine xZ.adv (me := xm46) hP_46 1 (pc' := 110) (lv' := [(0, .ref v0), (2, .int v2), (3, .int v3), (4, .int v4), (5, .int v5)]) (st' := [.int x1, .int (v2 + v3)]) rfl ?_
        exact xZ.sub (xsc (.head _) xsn) (show ([0, 2, 3, 4, 5] : List Nat).Nodup from by decide) (k_f_Rule_nextByWeeks_110 O f d v0 (v2 + v3) x1 M)
      · skip
        refine xZ.adv (me := xm46) hP_46 1 (pc' := 110) (lv' := [(0, .ref v0), (2, .int v2), (3, .int v3), (4, .int v4), (5, .int v5)]) (st' := [.int (0 : Int32), .int (v2 + v3)]) rfl ?_
        exact xZ.sub (xsc (.head _) xsn) (show ([0, 2, 3, 4, 5] : List Nat).Nodup from by decide) (k_f_Rule_nextByWeeks_110 O f d v0 (v2 + v3) (0 : Int32) M)
    · skip
      refine xZ.adv (me := xm46) hP_46 1 (pc' := 65) (lv' := [(0, .ref v0), (2, .int v2), (3, .int v3), (4, .int v4), (5, .int v5)]) (st' := [.ref v0]) rfl ?_
      refine xZ.k_gI (me := xm46) hP_46 rfl (fun x2 => ?_)
      refine xZ.adv (me := xm46) hP_46 5 (pc' := 74) (lv' := [(0, .ref v0), (2, .int v2), (3, .int v3), (4, .int v4), (5, .int v5)]) (st' := [.int (1 : Int32), .int ((x2 >>> (v5 &&& 31)) &&& (1 : Int32))]) rfl ?_
      refine xZ.ic_ne (me := xm46) hP_46 rfl (fun h3 => ?_) (fun h3 => ?_)
      · skip
        refine xZ.adv (me := xm46) hP_46 4 (pc' := 84) (lv' := [(0, .ref v0), (2, .int v2), (3, .int v3), (4, .int v4), (5, .int v5)]) (st' := [.int v4, .int (v4 + v5)]) rfl ?_
        refine xZ.calls (κ := oI) (av := [.int v4]) (rest := [.int (v4 + v5)]) (st' := fun x3 => [.int x3, .int (v4 + v5)]) (me := xm46) hP_46 rfl rfl rfl (Nat.le_of_ble_eq_true rfl) (by decide) hP_49 (Nat.le_of_ble_eq_true rfl) (fun _ => rfl) (k_f_Days_weekdayOf O f (d + 0) v4 M) (fun x3 M1 => ?_)
        refine xZ.adv (me := xm46) hP_46 1 (pc' := 88) (lv' := [(0, .ref v0), (2, .int v2), (3, .int v3), (4, .int v4), (5, .int v5)]) (st' := [.int ((v4 + v5) - x3)]) rfl ?_
        exact xZ.reti (me := xm46) hP_46 rfl rfl
      · skip
        refine xZ.adv (me := xm46) hP_46 2 (pc' := 57) (lv' := [(5, .int (v5 + (1 : Int32))), (0, .ref v0), (2, .int v2), (3, .int v3), (4, .int v4)]) (st' := []) rfl ?_
        exact xZ.sub (xsc (.tail _ (.head _)) (xsc (.tail _ (.tail _ (.head _))) (xsc (.tail _ (.tail _ (.tail _ (.head _)))) (xsc (.tail _ (.tail _ (.tail _ (.tail _ (.head _))))) (xsc (.head _) xsn))))) (show ([5, 0, 2, 3, 4] : List Nat).Nodup from by decide) (ih v0 v2 v3 v4 (v5 + (1 : Int32)) M)
def f_Rule_nextByWeeks_48 (O : Nat → Option va_E) (f : Nat) (v0 : Nat) (v2 : Int32) (v3 : Int32) (s0 : Int32) (M : xM) : Option (Int32 × xM) :=
  xcl (f_Days_weekdayOf O f s0 M) fun x1 M1 =>
  f_Rule_nextByWeeks_57 O f f v0 v2 v3 s0 x1 M1
set_option maxRecDepth 20000 in
theorem k_f_Rule_nextByWeeks_48 (O : Nat → Option va_E) (f d : Nat) (v0 : Nat) (v2 : Int32) (v3 : Int32) (s0 : Int32) (M : xM) : xZ oI O (d + 1) 46 48 [(0, .ref v0), (2, .int v2), (3, .int v3)] [.int s0] M (f_Rule_nextByWeeks_48 O f v0 v2 v3 s0 M) := by
  unfold f_Rule_nextByWeeks_48
  refine xZ.adv (me := xm46) hP_46 2 (pc' := 52) (lv' := [(4, .int s0), (0, .ref v0), (2, .int v2), (3, .int v3)]) (st' := [.int s0]) rfl ?_
  refine xZ.calls (κ := oI) (av := [.int s0]) (rest := []) (st' := fun x1 => [.int x1]) (me := xm46) hP_46 rfl rfl rfl (Nat.le_of_ble_eq_true rfl) (by decide) hP_49 (Nat.le_of_ble_eq_true rfl) (fun _ => rfl) (k_f_Days_weekdayOf O f (d + 0) s0 M) (fun x1 M1 => ?_)
  refine xZ.adv (me := xm46) hP_46 1 (pc' := 57) (lv' := [(5, .int x1), (4, .int s0), (0, .ref v0), (2, .int v2), (3, .int v3)]) (st' := []) rfl ?_
  exact xZ.sub (xsc (.tail _ (.tail _ (.head _))) (xsc (.tail _ (.tail _ (.tail _ (.head _)))) (xsc (.tail _ (.tail _ (.tail _ (.tail _ (.head _))))) (xsc (.tail _ (.head _)) (xsc (.head _) xsn))))) (show ([5, 4, 0, 2, 3] : List Nat).Nodup from by decide) (k_f_Rule_nextByWeeks_57 O f d f v0 v2 v3 s0 x1 M1)
def f_Rule_nextByWeeks_33 (O : Nat → Option va_E) (f : Nat) (v0 : Nat) (v1 : Int32) (v2 : Int32) (s0 : Int32) (M : xM) : Option (Int32 × xM) :=
  if s0 = 0 then (
    f_Rule_nextByWeeks_48 O f v0 v2 s0 v1 M
  ) else
  xcl (f_Days_weekBegin O f (v2 + s0) M) fun x1 M1 =>
  f_Rule_nextByWeeks_48 O f v0 v2 s0 x1 M1
set_option maxRecDepth 20000 in
theorem k_f_Rule_nextByWeeks_33 (O : Nat → Option va_E) (f d : Nat) (v0 : Nat) (v1 : Int32) (v2 : Int32) (s0 : Int32) (M : xM) : xZ oI O (d + 1) 46 33 [(0, .ref v0), (1, .int v1), (2, .int v2)] [.int s0] M (f_Rule_nextByWeeks_33 O f v0 v1 v2 s0 M) := by
  unfold f_Rule_nextByWeeks_33
  refine xZ.adv (me := xm46) hP_46 2 (pc' := 35) (lv' := [(3, .int s0), (0, .ref v0), (1, .int v1), (2, .int v2)]) (st' := [.int s0]) rfl ?_
  refine xZ.if_ne (me := xm46) hP_46 rfl (fun h1 => ?_) (fun h1 => ?_)
  · skip
    refine xZ.adv (me := xm46) hP_46 2 (pc' := 48) (lv' := [(3, .int s0), (0, .ref v0), (1, .int v1), (2, .int v2)]) (st' := [.int v1]) rfl ?_
    exact xZ.sub (xsc (.tail _ (.head _)) (xsc (.tail _ (.tail _ (.tail _ (.head _)))) (xsc (.head _) xsn))) (show ([3, 0, 1, 2] : List Nat).Nodup from by decide) (k_f_Rule_nextByWeeks_48 O f d v0 v2 s0 v1 M)
  · skip
    refine xZ.adv (me := xm46) hP_46 3 (pc' := 45) (lv' := [(3, .int s0), (0, .ref v0), (1, .int v1), (2, .int v2)]) (st' := [.int (v2 + s0)]) rfl ?_
    refine xZ.calls (κ := oI) (av := [.int (v2 + s0)]) (rest := []) (st' := fun x1 => [.int x1]) (me := xm46) hP_46 rfl rfl rfl (Nat.le_of_ble_eq_true rfl) (by decide) hP_48 (Nat.le_of_ble_eq_true rfl) (fun _ => rfl) (k_f_Days_weekBegin O f (d + 0) (v2 + s0) M) (fun x1 M1 => ?_)
    exact xZ.sub (xsc (.tail _ (.head _)) (xsc (.tail _ (.tail _ (.tail _ (.head _)))) (xsc (.head _) xsn))) (show ([3, 0, 1, 2] : List Nat).Nodup from by decide) (k_f_Rule_nextByWeeks_48 O f d v0 v2 s0 x1 M1)
def f_Rule_nextByWeeks (O : Nat → Option va_E) (f : Nat) (v0 : Nat) (v1 : Int32) (M : xM) : Option (Int32 × xM) :=
  xcl (f_Days_weekOf O f v1 M) fun x1 M1 =>
  (gI O M1 v0 9 2).bind fun x2 =>
  if (1 : Int32) ≤ x2 then (
    (gI O M1 v0 9 0).bind fun x3 =>
    xcl (f_Days_weekOf O f x3 M1) fun x4 M2 =>
    (gI O M2 v0 9 2).bind fun x5 =>
    xcl (f_Math_floorMod O f (x4 - x1) x5 M2) fun x6 M3 =>
    f_Rule_nextByWeeks_33 O f v0 v1 x1 x6 M3
  ) else
  f_Rule_nextByWeeks_33 O f v0 v1 x1 (0 : Int32) M1
set_option maxRecDepth 20000 in
theorem k_f_Rule_nextByWeeks (O : Nat → Option va_E) (f d : Nat) (v0 : Nat) (v1 : Int32) (M : xM) : xZ oI O (d + 1) 46 0 [(0, .ref v0), (1, .int v1)] [] M (f_Rule_nextByWeeks O f v0 v1 M) := by
  unfold f_Rule_nextByWeeks
  refine xZ.adv (me := xm46) hP_46 1 (pc' := 1) (lv' := [(0, .ref v0), (1, .int v1)]) (st' := [.int v1]) rfl ?_
  refine xZ.calls (κ := oI) (av := [.int v1]) (rest := []) (st' := fun x1 => [.int x1]) (me := xm46) hP_46 rfl rfl rfl (Nat.le_of_ble_eq_true rfl) (by decide) hP_47 (Nat.le_of_ble_eq_true rfl) (fun _ => rfl) (k_f_Days_weekOf O f (d + 0) v1 M) (fun x1 M1 => ?_)
  refine xZ.adv (me := xm46) hP_46 2 (pc' := 6) (lv' := [(2, .int x1), (0, .ref v0), (1, .int v1)]) (st' := [.ref v0]) rfl ?_
  refine xZ.k_gI (me := xm46) hP_46 rfl (fun x2 => ?_)
  refine xZ.adv (me := xm46) hP_46 1 (pc' := 10) (lv' := [(2, .int x1), (0, .ref v0), (1, .int v1)]) (st' := [.int (1 : Int32), .int x2]) rfl ?_
  refine xZ.ic_ge (me := xm46) hP_46 rfl (fun h1 => ?_) (fun h1 => ?_)
  · skip
    refine xZ.adv (me := xm46) hP_46 1 (pc' := 18) (lv' := [(2, .int x1), (0, .ref v0), (1, .int v1)]) (st' := [.ref v0]) rfl ?_
    refine xZ.k_gI (me := xm46) hP_46 rfl (fun x3 => ?_)
    refine xZ.calls (κ := oI) (av := [.int x3]) (rest := []) (st' := fun x4 => [.int x4]) (me := xm46) hP_46 rfl rfl rfl (Nat.le_of_ble_eq_true rfl) (by decide) hP_47 (Nat.le_of_ble_eq_true rfl) (fun _ => rfl) (k_f_Days_weekOf O f (d + 0) x3 M1) (fun x4 M2 => ?_)
    refine xZ.adv (me := xm46) hP_46 3 (pc' := 27) (lv' := [(2, .int x1), (0, .ref v0), (1, .int v1)]) (st' := [.ref v0, .int (x4 - x1)]) rfl ?_
    refine xZ.k_gI (me := xm46) hP_46 rfl (fun x5 => ?_)
    refine xZ.calls (κ := oI) (av := [.int (x4 - x1), .int x5]) (rest := []) (st' := fun x6 => [.int x6]) (me := xm46) hP_46 rfl rfl rfl (Nat.le_of_ble_eq_true rfl) (by decide) hP_250 (Nat.le_of_ble_eq_true rfl) (fun _ => rfl) (k_f_Math_floorMod O f (d + 0) (x4 - x1) x5 M2) (fun x6 M3 => ?_)
    exact xZ.sub (xsc (.tail _ (.head _)) (xsc (.tail _ (.tail _ (.head _))) (xsc (.head _) xsn))) (show ([2, 0, 1] : List Nat).Nodup from by decide) (k_f_Rule_nextByWeeks_33 O f d v0 v1 x1 x6 M3)
  · skip
    refine xZ.adv (me := xm46) hP_46 2 (pc' := 33) (lv' := [(2, .int x1), (0, .ref v0), (1, .int v1)]) (st' := [.int (0 : Int32)]) rfl ?_
    exact xZ.sub (xsc (.tail _ (.head _)) (xsc (.tail _ (.tail _ (.head _))) (xsc (.head _) xsn))) (show ([2, 0, 1] : List Nat).Nodup from by decide) (k_f_Rule_nextByWeeks_33 O f d v0 v1 x1 (0 : Int32) M1)
def f_Math_max (O : Nat → Option va_E) (f : Nat) (v0 : Int32) (v1 : Int32) (M : xM) : Option (Int32 × xM) :=
  if v0 < v1 then (
    some (v1, M)
  ) else
  some (v0, M)
set_option maxRecDepth 20000 in
theorem k_f_Math_max (O : Nat → Option va_E) (f d : Nat) (v0 : Int32) (v1 : Int32) (M : xM) : xZ oI O (d + 0) 247 0 [(0, .int v0), (1, .int v1)] [] M (f_Math_max O f v0 v1 M) := by
  unfold f_Math_max
  refine xZ.adv (me := xm247) hP_247 2 (pc' := 2) (lv' := [(0, .int v0), (1, .int v1)]) (st' := [.int v1, .int v0]) rfl ?_
  refine xZ.ic_lt (me := xm247) hP_247 rfl (fun h1 => ?_) (fun h1 => ?_)
  · skip
    refine xZ.adv (me := xm247) hP_247 1 (pc' := 10) (lv' := [(0, .int v0), (1, .int v1)]) (st' := [.int v1]) rfl ?_
    exact xZ.reti (me := xm247) hP_247 rfl rfl
  · skip
    refine xZ.adv (me := xm247) hP_247 2 (pc' := 10) (lv' := [(0, .int v0), (1, .int v1)]) (st' := [.int v0]) rfl ?_
    exact xZ.reti (me := xm247) hP_247 rfl rfl
def f_Rule_monthStep_23 (O : Nat → Option va_E) (f : Nat) (s0 : Int32) (s1 : Int32) (M : xM) : Option (Int32 × xM) :=
  xcl (f_Math_max O f s0 s1 M) fun x1 M1 =>
  some (x1, M1)
set_option maxRecDepth 20000 in
theorem k_f_Rule_monthStep_23 (O : Nat → Option va_E) (f d : Nat) (s0 : Int32) (s1 : Int32) (M : xM) : xZ oI O (d + 1) 51 23 [] [.int s1, .int s0] M (f_Rule_monthStep_23 O f s0 s1 M) := by
  unfold f_Rule_monthStep_23
  refine xZ.calls (κ := oI) (av := [.int s0, .int s1]) (rest := []) (st' := fun x1 => [.int x1]) (me := xm51) hP_51 rfl rfl rfl (Nat.le_of_ble_eq_true rfl) (by decide) hP_247 (Nat.le_of_ble_eq_true rfl) (fun _ => rfl) (k_f_Math_max O f (d + 0) s0 s1 M) (fun x1 M1 => ?_)
  exact xZ.reti (me := xm51) hP_51 rfl rfl
def f_Rule_monthStep (O : Nat → Option va_E) (f : Nat) (v0 : Nat) (M : xM) : Option (Int32 × xM) :=
  (gI O M v0 9 1).bind fun x1 =>
  if x1 = (5 : Int32) then (
    (gI O M v0 9 2).bind fun x2 =>
    f_Rule_monthStep_23 O f (1 : Int32) ((12 : Int32) * x2) M
  ) else
  (gI O M v0 9 2).bind fun x3 =>
  f_Rule_monthStep_23 O f (1 : Int32) x3 M
set_option maxRecDepth 20000 in
theorem k_f_Rule_monthStep (O : Nat → Option va_E) (f d : Nat) (v0 : Nat) (M : xM) : xZ oI O (d + 1) 51 0 [(0, .ref v0)] [] M (f_Rule_monthStep O f v0 M) := by
  unfold f_Rule_monthStep
  refine xZ.adv (me := xm51) hP_51 2 (pc' := 2) (lv' := [(0, .ref v0)]) (st' := [.ref v0, .int (1 : Int32)]) rfl ?_
  refine xZ.k_gI (me := xm51) hP_51 rfl (fun x1 => ?_)
  refine xZ.adv (me := xm51) hP_51 1 (pc' := 6) (lv' := [(0, .ref v0)]) (st' := [.int (5 : Int32), .int x1, .int (1 : Int32)]) rfl ?_
  refine xZ.ic_ne (me := xm51) hP_51 rfl (fun h1 => ?_) (fun h1 => ?_)
  · skip
    refine xZ.adv (me := xm51) hP_51 2 (pc' := 12) (lv' := [(0, .ref v0)]) (st' := [.ref v0, .int (12 : Int32), .int (1 : Int32)]) rfl ?_
    refine xZ.k_gI (me := xm51) hP_51 rfl (fun x2 => ?_)
    refine xZ.adv (me := xm51) hP_51 2 (pc' := 23) (lv' := [(0, .ref v0)]) (st' := [.int ((12 : Int32) * x2), .int (1 : Int32)]) rfl ?_
    exact xZ.sub xsn (show ([0] : List Nat).Nodup from by decide) (k_f_Rule_monthStep_23 O f d (1 : Int32) ((12 : Int32) * x2) M)
  · skip
    refine xZ.adv (me := xm51) hP_51 1 (pc' := 20) (lv' := [(0, .ref v0)]) (st' := [.ref v0, .int (1 : Int32)]) rfl ?_
    refine xZ.k_gI (me := xm51) hP_51 rfl (fun x3 => ?_)
    exact xZ.sub xsn (show ([0] : List Nat).Nodup from by decide) (k_f_Rule_monthStep_23 O f d (1 : Int32) x3 M)
def f_Days_monthOf (O : Nat → Option va_E) (f : Nat) (v0 : Int32) (M : xM) : Option (Int32 × xM) :=
  xlet (((v0 - (60 : Int32)) + (146097 : Int32)) - ((v0 - (60 : Int32)) + (146097 : Int32)) / (146097 : Int32) * (146097 : Int32)) fun x1 =>
  xlet ((((x1 - (x1 / (1460 : Int32))) + (x1 / (36524 : Int32))) - (x1 / (146096 : Int32))) / (365 : Int32)) fun x2 =>
  xlet (x1 - ((((365 : Int32) * x2) + (x2 / (4 : Int32))) - (x2 / (100 : Int32)))) fun x3 =>
  xlet ((((5 : Int32) * x3) + (2 : Int32)) / (153 : Int32)) fun x4 =>
  some (((((x2 * (12 : Int32)) + x4) + (2 : Int32)) - (((x2 * (12 : Int32)) + x4) + (2 : Int32)) / (4800 : Int32) * (4800 : Int32)), M)
set_option maxRecDepth 20000 in
theorem k_f_Days_monthOf (O : Nat → Option va_E) (f d : Nat) (v0 : Int32) (M : xM) : xZ oI O (d + 0) 52 0 [(0, .int v0)] [] M (f_Days_monthOf O f v0 M) := by
  unfold f_Days_monthOf
  refine xZ.adv (me := xm52) hP_52 8 (pc' := 11) (lv' := [(1, .int (((v0 - (60 : Int32)) + (146097 : Int32)) - ((v0 - (60 : Int32)) + (146097 : Int32)) / (146097 : Int32) * (146097 : Int32))), (0, .int v0)]) (st' := []) rfl ?_
  refine xZ.letI (v := (((v0 - (60 : Int32)) + (146097 : Int32)) - ((v0 - (60 : Int32)) + (146097 : Int32)) / (146097 : Int32) * (146097 : Int32))) (lvf := fun x1 => [(1, .int x1), (0, .int v0)]) (stf := fun x1 => []) ?_
  intro x1
  refine xZ.adv (me := xm52) hP_52 16 (pc' := 33) (lv' := [(2, .int ((((x1 - (x1 / (1460 : Int32))) + (x1 / (36524 : Int32))) - (x1 / (146096 : Int32))) / (365 : Int32))), (1, .int x1), (0, .int v0)]) (st' := []) rfl ?_
  refine xZ.letI (v := ((((x1 - (x1 / (1460 : Int32))) + (x1 / (36524 : Int32))) - (x1 / (146096 : Int32))) / (365 : Int32))) (lvf := fun x2 => [(2, .int x2), (1, .int x1), (0, .int v0)]) (stf := fun x2 => []) ?_
  intro x2
  refine xZ.adv (me := xm52) hP_52 14 (pc' := 50) (lv' := [(3, .int (x1 - ((((365 : Int32) * x2) + (x2 / (4 : Int32))) - (x2 / (100 : Int32))))), (2, .int x2), (1, .int x1), (0, .int v0)]) (st' := []) rfl ?_
  refine xZ.letI (v := (x1 - ((((365 : Int32) * x2) + (x2 / (4 : Int32))) - (x2 / (100 : Int32))))) (lvf := fun x3 => [(3, .int x3), (2, .int x2), (1, .int x1), (0, .int v0)]) (stf := fun x3 => []) ?_
  intro x3
  refine xZ.adv (me := xm52) hP_52 8 (pc' := 61) (lv' := [(4, .int ((((5 : Int32) * x3) + (2 : Int32)) / (153 : Int32))), (3, .int x3), (2, .int x2), (1, .int x1), (0, .int v0)]) (st' := []) rfl ?_
  refine xZ.letI (v := ((((5 : Int32) * x3) + (2 : Int32)) / (153 : Int32))) (lvf := fun x4 => [(4, .int x4), (3, .int x3), (2, .int x2), (1, .int x1), (0, .int v0)]) (stf := fun x4 => []) ?_
  intro x4
  refine xZ.adv (me := xm52) hP_52 9 (pc' := 74) (lv' := [(4, .int x4), (3, .int x3), (2, .int x2), (1, .int x1), (0, .int v0)]) (st' := [.int ((((x2 * (12 : Int32)) + x4) + (2 : Int32)) - (((x2 * (12 : Int32)) + x4) + (2 : Int32)) / (4800 : Int32) * (4800 : Int32))]) rfl ?_
  exact xZ.reti (me := xm52) hP_52 rfl rfl
def f_Days_monthBegin (O : Nat → Option va_E) (f : Nat) (v0 : Int32) (M : xM) : Option (Int32 × xM) :=
  xlet (((v0 - (2 : Int32)) + (4800 : Int32)) - ((v0 - (2 : Int32)) + (4800 : Int32)) / (4800 : Int32) * (4800 : Int32)) fun x1 =>
  xlet ((((153 : Int32) * (x1 - x1 / (12 : Int32) * (12 : Int32))) + (2 : Int32)) / (5 : Int32)) fun x2 =>
  xlet (((((((365 : Int32) * (x1 / (12 : Int32))) + ((x1 / (12 : Int32)) / (4 : Int32))) - ((x1 / (12 : Int32)) / (100 : Int32))) + x2) + (60 : Int32)) - ((((((365 : Int32) * (x1 / (12 : Int32))) + ((x1 / (12 : Int32)) / (4 : Int32))) - ((x1 / (12 : Int32)) / (100 : Int32))) + x2) + (60 : Int32)) / (146097 : Int32) * (146097 : Int32)) fun x3 =>
  some (x3, M)
set_option maxRecDepth 20000 in
theorem k_f_Days_monthBegin (O : Nat → Option va_E) (f d : Nat) (v0 : Int32) (M : xM) : xZ oI O (d + 0) 54 0 [(0, .int v0)] [] M (f_Days_monthBegin O f v0 M) := by
  unfold f_Days_monthBegin
  refine xZ.adv (me := xm54) hP_54 8 (pc' := 12) (lv' := [(1, .int (((v0 - (2 : Int32)) + (4800 : Int32)) - ((v0 - (2 : Int32)) + (4800 : Int32)) / (4800 : Int32) * (4800 : Int32))), (0, .int v0)]) (st' := []) rfl ?_
  refine xZ.letI (v := (((v0 - (2 : Int32)) + (4800 : Int32)) - ((v0 - (2 : Int32)) + (4800 : Int32)) / (4800 : Int32) * (4800 : Int32))) (lvf := fun x1 => [(1, .int x1), (0, .int v0)]) (stf := fun x1 => []) ?_
  intro x1
  refine xZ.adv (me := xm54) hP_54 14 (pc' := 30) (lv' := [(3, .int ((((153 : Int32) * (x1 - x1 / (12 : Int32) * (12 : Int32))) + (2 : Int32)) / (5 : Int32))), (2, .int (x1 / (12 : Int32))), (1, .int x1), (0, .int v0)]) (st' := []) rfl ?_
  refine xZ.letI (v := ((((153 : Int32) * (x1 - x1 / (12 : Int32) * (12 : Int32))) + (2 : Int32)) / (5 : Int32))) (lvf := fun x2 => [(3, .int x2), (2, .int (x1 / (12 : Int32))), (1, .int x1), (0, .int v0)]) (stf := fun x2 => []) ?_
  intro x2
  refine xZ.adv (me := xm54) hP_54 17 (pc' := 52) (lv' := [(3, .int x2), (2, .int (x1 / (12 : Int32))), (1, .int x1), (0, .int v0)]) (st' := [.int (((((((365 : Int32) * (x1 / (12 : Int32))) + ((x1 / (12 : Int32)) / (4 : Int32))) - ((x1 / (12 : Int32)) / (100 : Int32))) + x2) + (60 : Int32)) - ((((((365 : Int32) * (x1 / (12 : Int32))) + ((x1 / (12 : Int32)) / (4 : Int32))) - ((x1 / (12 : Int32)) / (100 : Int32))) + x2) + (60 : Int32)) / (146097 : Int32) * (146097 : Int32))]) rfl ?_
  refine xZ.letI (v := (((((((365 : Int32) * (x1 / (12 : Int32))) + ((x1 / (12 : Int32)) / (4 : Int32))) - ((x1 / (12 : Int32)) / (100 : Int32))) + x2) + (60 : Int32)) - ((((((365 : Int32) * (x1 / (12 : Int32))) + ((x1 / (12 : Int32)) / (4 : Int32))) - ((x1 / (12 : Int32)) / (100 : Int32))) + x2) + (60 : Int32)) / (146097 : Int32) * (146097 : Int32))) (lvf := fun x3 => [(3, .int x2), (2, .int (x1 / (12 : Int32))), (1, .int x1), (0, .int v0)]) (stf := fun x3 => [.int x3]) ?_
  intro x3
  exact xZ.reti (me := xm54) hP_54 rfl rfl
def f_Days_monthLength (O : Nat → Option va_E) (f : Nat) (v0 : Int32) (M : xM) : Option (Int32 × xM) :=
  xlet ((v0 - v0 / (12 : Int32) * (12 : Int32)) + (1 : Int32)) fun x1 =>
  if x1 = (2 : Int32) then (
    if ((v0 / (12 : Int32)) - (v0 / (12 : Int32)) / (4 : Int32) * (4 : Int32)) = 0 then (
      if ((v0 / (12 : Int32)) - (v0 / (12 : Int32)) / (100 : Int32) * (100 : Int32)) = 0 then (
        if ((v0 / (12 : Int32)) - (v0 / (12 : Int32)) / (400 : Int32) * (400 : Int32)) = 0 then (
          some ((29 : Int32), M)
        ) else
        some ((28 : Int32), M)
      ) else
      some ((29 : Int32), M)
    ) else
    some ((28 : Int32), M)
  ) else
  if x1 = (4 : Int32) then (
    some ((30 : Int32), M)
  ) else
  if x1 = (6 : Int32) then (
    some ((30 : Int32), M)
  ) else
  if x1 = (9 : Int32) then (
    some ((30 : Int32), M)
  ) else
  if x1 = (11 : Int32) then (
    some ((30 : Int32), M)
  ) else
  some ((31 : Int32), M)
set_option maxRecDepth 20000 in
theorem k_f_Days_monthLength (O : Nat → Option va_E) (f d : Nat) (v0 : Int32) (M : xM) : xZ oI O (d + 0) 55 0 [(0, .int v0)] [] M (f_Days_monthLength O f v0 M) := by
  unfold f_Days_monthLength
  refine xZ.adv (me := xm55) hP_55 6 (pc' := 7) (lv' := [(1, .int ((v0 - v0 / (12 : Int32) * (12 : Int32)) + (1 : Int32))), (0, .int v0)]) (st' := []) rfl ?_
  refine xZ.letI (v := ((v0 - v0 / (12 : Int32) * (12 : Int32)) + (1 : Int32))) (lvf := fun x1 => [(1, .int x1), (0, .int v0)]) (stf := fun x1 => []) ?_
  intro x1
  refine xZ.adv (me := xm55) hP_55 6 (pc' := 14) (lv' := [(2, .int (v0 / (12 : Int32))), (1, .int x1), (0, .int v0)]) (st' := [.int (2 : Int32), .int x1]) rfl ?_
  refine xZ.ic_eq (me := xm55) hP_55 rfl (fun h1 => ?_) (fun h1 => ?_)
  · skip
    refine xZ.adv (me := xm55) hP_55 3 (pc' := 51) (lv' := [(2, .int (v0 / (12 : Int32))), (1, .int x1), (0, .int v0)]) (st' := [.int ((v0 / (12 : Int32)) - (v0 / (12 : Int32)) / (4 : Int32) * (4 : Int32))]) rfl ?_
    refine xZ.if_ne (me := xm55) hP_55 rfl (fun h2 => ?_) (fun h2 => ?_)
    · skip
      refine xZ.adv (me := xm55) hP_55 3 (pc' := 58) (lv' := [(2, .int (v0 / (12 : Int32))), (1, .int x1), (0, .int v0)]) (st' := [.int ((v0 / (12 : Int32)) - (v0 / (12 : Int32)) / (100 : Int32) * (100 : Int32))]) rfl ?_
      refine xZ.if_ne (me := xm55) hP_55 rfl (fun h3 => ?_) (fun h3 => ?_)
      · skip
        refine xZ.adv (me := xm55) hP_55 3 (pc' := 66) (lv' := [(2, .int (v0 / (12 : Int32))), (1, .int x1), (0, .int v0)]) (st' := [.int ((v0 / (12 : Int32)) - (v0 / (12 : Int32)) / (400 : Int32) * (400 : Int32))]) rfl ?_
        refine xZ.if_ne (me := xm55) hP_55 rfl (fun h4 => ?_) (fun h4 => ?_)
        · skip
          refine xZ.adv (me := xm55) hP_55 2 (pc' := 76) (lv' := [(2, .int (v0 / (12 : Int32))), (1, .int x1), (0, .int v0)]) (st' := [.int (29 : Int32)]) rfl ?_
          exact xZ.reti (me := xm55) hP_55 rfl rfl
        · skip
          refine xZ.adv (me := xm55) hP_55 1 (pc' := 76) (lv' := [(2, .int (v0 / (12 : Int32))), (1, .int x1), (0, .int v0)]) (st' := [.int (28 : Int32)]) rfl ?_
          exact xZ.reti (me := xm55) hP_55 rfl rfl
      · skip
        refine xZ.adv (me := xm55) hP_55 2 (pc' := 76) (lv' := [(2, .int (v0 / (12 : Int32))), (1, .int x1), (0, .int v0)]) (st' := [.int (29 : Int32)]) rfl ?_
        exact xZ.reti (me := xm55) hP_55 rfl rfl
    · skip
      refine xZ.adv (me := xm55) hP_55 1 (pc' := 76) (lv' := [(2, .int (v0 / (12 : Int32))), (1, .int x1), (0, .int v0)]) (st' := [.int (28 : Int32)]) rfl ?_
      exact xZ.reti (me := xm55) hP_55 rfl rfl
  · skip
    refine xZ.adv (me := xm55) hP_55 2 (pc' := 19) (lv' := [(2, .int (v0 / (12 : Int32))), (1, .int x1), (0, .int v0)]) (st' := [.int (4 : Int32), .int x1]) rfl ?_
    refine xZ.ic_eq (me := xm55) hP_55 rfl (fun h5 => ?_) (fun h5 => ?_)
    · skip
      refine xZ.adv (me := xm55) hP_55 2 (pc' := 47) (lv' := [(2, .int (v0 / (12 : Int32))), (1, .int x1), (0, .int v0)]) (st' := [.int (30 : Int32)]) rfl ?_
      exact xZ.reti (me := xm55) hP_55 rfl rfl
    · skip
      refine xZ.adv (me := xm55) hP_55 2 (pc' := 25) (lv' := [(2, .int (v0 / (12 : Int32))), (1, .int x1), (0, .int v0)]) (st' := [.int (6 : Int32), .int x1]) rfl ?_
      refine xZ.ic_eq (me := xm55) hP_55 rfl (fun h6 => ?_) (fun h6 => ?_)
      · skip
        refine xZ.adv (me := xm55) hP_55 2 (pc' := 47) (lv' := [(2, .int (v0 / (12 : Int32))), (1, .int x1), (0, .int v0)]) (st' := [.int (30 : Int32)]) rfl ?_
        exact xZ.reti (me := xm55) hP_55 rfl rfl
      · skip
        refine xZ.adv (me := xm55) hP_55 2 (pc' := 31) (lv' := [(2, .int (v0 / (12 : Int32))), (1, .int x1), (0, .int v0)]) (st' := [.int (9 : Int32), .int x1]) rfl ?_
        refine xZ.ic_eq (me := xm55) hP_55 rfl (fun h7 => ?_) (fun h7 => ?_)
        · skip
          refine xZ.adv (me := xm55) hP_55 2 (pc' := 47) (lv' := [(2, .int (v0 / (12 : Int32))), (1, .int x1), (0, .int v0)]) (st' := [.int (30 : Int32)]) rfl ?_
          exact xZ.reti (me := xm55) hP_55 rfl rfl
        · skip
          refine xZ.adv (me := xm55) hP_55 2 (pc' := 37) (lv' := [(2, .int (v0 / (12 : Int32))), (1, .int x1), (0, .int v0)]) (st' := [.int (11 : Int32), .int x1]) rfl ?_
          refine xZ.ic_ne (me := xm55) hP_55 rfl (fun h8 => ?_) (fun h8 => ?_)
          · skip
            refine xZ.adv (me := xm55) hP_55 2 (pc' := 47) (lv' := [(2, .int (v0 / (12 : Int32))), (1, .int x1), (0, .int v0)]) (st' := [.int (30 : Int32)]) rfl ?_
            exact xZ.reti (me := xm55) hP_55 rfl rfl
          · skip
            refine xZ.adv (me := xm55) hP_55 1 (pc' := 47) (lv' := [(2, .int (v0 / (12 : Int32))), (1, .int x1), (0, .int v0)]) (st' := [.int (31 : Int32)]) rfl ?_
            exact xZ.reti (me := xm55) hP_55 rfl rfl
def f_Math_abs (O : Nat → Option va_E) (f : Nat) (v0 : Int32) (M : xM) : Option (Int32 × xM) :=
  if 0 ≤ v0 then (
    some (v0, M)
  ) else
  some ((-v0), M)
set_option maxRecDepth 20000 in
theorem k_f_Math_abs (O : Nat → Option va_E) (f d : Nat) (v0 : Int32) (M : xM) : xZ oI O (d + 0) 249 0 [(0, .int v0)] [] M (f_Math_abs O f v0 M) := by
  unfold f_Math_abs
  refine xZ.adv (me := xm249) hP_249 1 (pc' := 1) (lv' := [(0, .int v0)]) (st' := [.int v0]) rfl ?_
  refine xZ.if_ge (me := xm249) hP_249 rfl (fun h1 => ?_) (fun h1 => ?_)
  · skip
    refine xZ.adv (me := xm249) hP_249 1 (pc' := 10) (lv' := [(0, .int v0)]) (st' := [.int v0]) rfl ?_
    exact xZ.reti (me := xm249) hP_249 rfl rfl
  · skip
    refine xZ.adv (me := xm249) hP_249 3 (pc' := 10) (lv' := [(0, .int v0)]) (st' := [.int (-v0)]) rfl ?_
    exact xZ.reti (me := xm249) hP_249 rfl rfl
def f_Integer_bitCount (O : Nat → Option va_E) (f : Nat) (v0 : Int32) (M : xM) : Option (Int32 × xM) :=
  xlet (v0 - ((Int32.toUInt32 v0 >>> (Int32.toUInt32 (1 : Int32) &&& Int32.toUInt32 31)).toInt32 &&& (1431655765 : Int32))) fun x1 =>
  xlet ((x1 &&& (858993459 : Int32)) + ((Int32.toUInt32 x1 >>> (Int32.toUInt32 (2 : Int32) &&& Int32.toUInt32 31)).toInt32 &&& (858993459 : Int32))) fun x2 =>
  xlet ((x2 + (Int32.toUInt32 x2 >>> (Int32.toUInt32 (4 : Int32) &&& Int32.toUInt32 31)).toInt32) &&& (252645135 : Int32)) fun x3 =>
  xlet (x3 + (Int32.toUInt32 x3 >>> (Int32.toUInt32 (8 : Int32) &&& Int32.toUInt32 31)).toInt32) fun x4 =>
  xlet (x4 + (Int32.toUInt32 x4 >>> (Int32.toUInt32 (16 : Int32) &&& Int32.toUInt32 31)).toInt32) fun x5 =>
  some ((x5 &&& (63 : Int32)), M)
set_option maxRecDepth 20000 in
theorem k_f_Integer_bitCount (O : Nat → Option va_E) (f d : Nat) (v0 : Int32) (M : xM) : xZ oI O (d + 0) 252 0 [(0, .int v0)] [] M (f_Integer_bitCount O f v0 M) := by
  unfold f_Integer_bitCount
  refine xZ.adv (me := xm252) hP_252 8 (pc' := 10) (lv' := [(0, .int (v0 - ((Int32.toUInt32 v0 >>> (Int32.toUInt32 (1 : Int32) &&& Int32.toUInt32 31)).toInt32 &&& (1431655765 : Int32))))]) (st' := []) rfl ?_
  refine xZ.letI (v := (v0 - ((Int32.toUInt32 v0 >>> (Int32.toUInt32 (1 : Int32) &&& Int32.toUInt32 31)).toInt32 &&& (1431655765 : Int32)))) (lvf := fun x1 => [(0, .int x1)]) (stf := fun x1 => []) ?_
  intro x1
  refine xZ.adv (me := xm252) hP_252 10 (pc' := 24) (lv' := [(0, .int ((x1 &&& (858993459 : Int32)) + ((Int32.toUInt32 x1 >>> (Int32.toUInt32 (2 : Int32) &&& Int32.toUInt32 31)).toInt32 &&& (858993459 : Int32))))]) (st' := []) rfl ?_
  refine xZ.letI (v := ((x1 &&& (858993459 : Int32)) + ((Int32.toUInt32 x1 >>> (Int32.toUInt32 (2 : Int32) &&& Int32.toUInt32 31)).toInt32 &&& (858993459 : Int32)))) (lvf := fun x2 => [(0, .int x2)]) (stf := fun x2 => []) ?_
  intro x2
  refine xZ.adv (me := xm252) hP_252 8 (pc' := 34) (lv' := [(0, .int ((x2 + (Int32.toUInt32 x2 >>> (Int32.toUInt32 (4 : Int32) &&& Int32.toUInt32 31)).toInt32) &&& (252645135 : Int32)))]) (st' := []) rfl ?_
  refine xZ.letI (v := ((x2 + (Int32.toUInt32 x2 >>> (Int32.toUInt32 (4 : Int32) &&& Int32.toUInt32 31)).toInt32) &&& (252645135 : Int32))) (lvf := fun x3 => [(0, .int x3)]) (stf := fun x3 => []) ?_
  intro x3
  refine xZ.adv (me := xm252) hP_252 6 (pc' := 41) (lv' := [(0, .int (x3 + (Int32.toUInt32 x3 >>> (Int32.toUInt32 (8 : Int32) &&& Int32.toUInt32 31)).toInt32))]) (st' := []) rfl ?_
  refine xZ.letI (v := (x3 + (Int32.toUInt32 x3 >>> (Int32.toUInt32 (8 : Int32) &&& Int32.toUInt32 31)).toInt32)) (lvf := fun x4 => [(0, .int x4)]) (stf := fun x4 => []) ?_
  intro x4
  refine xZ.adv (me := xm252) hP_252 6 (pc' := 48) (lv' := [(0, .int (x4 + (Int32.toUInt32 x4 >>> (Int32.toUInt32 (16 : Int32) &&& Int32.toUInt32 31)).toInt32))]) (st' := []) rfl ?_
  refine xZ.letI (v := (x4 + (Int32.toUInt32 x4 >>> (Int32.toUInt32 (16 : Int32) &&& Int32.toUInt32 31)).toInt32)) (lvf := fun x5 => [(0, .int x5)]) (stf := fun x5 => []) ?_
  intro x5
  refine xZ.adv (me := xm252) hP_252 3 (pc' := 52) (lv' := [(0, .int x5)]) (st' := [.int (x5 &&& (63 : Int32))]) rfl ?_
  exact xZ.reti (me := xm252) hP_252 rfl rfl
def f_Rule_dayOfSet_88 (O : Nat → Option va_E) (f : Nat) (K62 : Nat → Int32 → Int32 → Int32 → Int32 → xM → Option (Int32 × xM)) (v0 : Nat) (v2 : Int32) (v5 : Int32) (v6 : Int32) (v7 : Int32) (s0 : Int32) (M : xM) : Option (Int32 × xM) :=
  (gI O M v0 9 3).bind fun x1 =>
  xcl (f_Days_weekdayOf O f s0 M) fun x2 M1 =>
  if ((x1 >>> (x2 &&& 31)) &&& (1 : Int32)) = (1 : Int32) then (
    if v5 = 0 then (
      some (s0, M1)
    ) else
    K62 v0 v2 (v5 + (-1 : Int32)) v6 (v7 + (1 : Int32)) M1
  ) else
  K62 v0 v2 v5 v6 (v7 + (1 : Int32)) M1
set_option maxRecDepth 20000 in
theorem k_f_Rule_dayOfSet_88 (O : Nat → Option va_E) (f d : Nat) (K62 : Nat → Int32 → Int32 → Int32 → Int32 → xM → Option (Int32 × xM)) (hK62 : ∀ (v0 : Nat) (v2 : Int32) (v5 : Int32) (v6 : Int32) (v7 : Int32) M, xZ oI O (d + 1) 56 62 [(0, .ref v0), (2, .int v2), (5, .int v5), (6, .int v6), (7, .int v7)] [] M (K62 v0 v2 v5 v6 v7 M)) (v0 : Nat) (v2 : Int32) (v5 : Int32) (v6 : Int32) (v7 : Int32) (s0 : Int32) (M : xM) : xZ oI O (d + 1) 56 88 [(0, .ref v0), (2, .int v2), (5, .int v5), (6, .int v6), (7, .int v7)] [.int s0] M (f_Rule_dayOfSet_88 O f K62 v0 v2 v5 v6 v7 s0 M) := by
  unfold f_Rule_dayOfSet_88
  refine xZ.adv (me := xm56) hP_56 2 (pc' := 91) (lv' := [(8, .int s0), (0, .ref v0), (2, .int v2), (5, .int v5), (6, .int v6), (7, .int v7)]) (st' := [.ref v0]) rfl ?_
  refine xZ.k_gI (me := xm56) hP_56 rfl (fun x1 => ?_)
  refine xZ.adv (me := xm56) hP_56 1 (pc' := 96) (lv' := [(8, .int s0), (0, .ref v0), (2, .int v2), (5, .int v5), (6, .int v6), (7, .int v7)]) (st' := [.int s0, .int x1]) rfl ?_
  refine xZ.calls (κ := oI) (av := [.int s0]) (rest := [.int x1]) (st' := fun x2 => [.int x2, .int x1]) (me := xm56) hP_56 rfl rfl rfl (Nat.le_of_ble_eq_true rfl) (by decide) hP_49 (Nat.le_of_ble_eq_true rfl) (fun _ => rfl) (k_f_Days_weekdayOf O f (d + 0) s0 M) (fun x2 M1 => ?_)
  refine xZ.adv (me := xm56) hP_56 4 (pc' := 103) (lv' := [(8, .int s0), (0, .ref v0), (2, .int v2), (5, .int v5), (6, .int v6), (7, .int v7)]) (st' := [.int (1 : Int32), .int ((x1 >>> (x2 &&& 31)) &&& (1 : Int32))]) rfl ?_
  refine xZ.ic_ne (me := xm56) hP_56 rfl (fun h1 => ?_) (fun h1 => ?_)
  · skip
    refine xZ.adv (me := xm56) hP_56 1 (pc' := 108) (lv' := [(8, .int s0), (0, .ref v0), (2, .int v2), (5, .int v5), (6, .int v6), (7, .int v7)]) (st' := [.int v5]) rfl ?_
    refine xZ.if_ne (me := xm56) hP_56 rfl (fun h2 => ?_) (fun h2 => ?_)
    · skip
      refine xZ.adv (me := xm56) hP_56 1 (pc' := 113) (lv' := [(8, .int s0), (0, .ref v0), (2, .int v2), (5, .int v5), (6, .int v6), (7, .int v7)]) (st' := [.int s0]) rfl ?_
      exact xZ.reti (me := xm56) hP_56 rfl rfl
    · skip
      refine xZ.adv (me := xm56) hP_56 3 (pc' := 62) (lv' := [(7, .int (v7 + (1 : Int32))), (5, .int (v5 + (-1 : Int32))), (8, .int s0), (0, .ref v0), (2, .int v2), (6, .int v6)]) (st' := []) rfl ?_
      exact xZ.sub (xsc (.tail _ (.tail _ (.tail _ (.head _)))) (xsc (.tail _ (.tail _ (.tail _ (.tail _ (.head _))))) (xsc (.tail _ (.head _)) (xsc (.tail _ (.tail _ (.tail _ (.tail _ (.tail _ (.head _)))))) (xsc (.head _) xsn))))) (show ([7, 5, 8, 0, 2, 6] : List Nat).Nodup from by decide) (hK62 v0 v2 (v5 + (-1 : Int32)) v6 (v7 + (1 : Int32)) M1)
  · skip
    refine xZ.adv (me := xm56) hP_56 2 (pc' := 62) (lv' := [(7, .int (v7 + (1 : Int32))), (8, .int s0), (0, .ref v0), (2, .int v2), (5, .int v5), (6, .int v6)]) (st' := []) rfl ?_
    exact xZ.sub (xsc (.tail _ (.tail _ (.head _))) (xsc (.tail _ (.tail _ (.tail _ (.head _)))) (xsc (.tail _ (.tail _ (.tail _ (.tail _ (.head _))))) (xsc (.tail _ (.tail _ (.tail _ (.tail _ (.tail _ (.head _)))))) (xsc (.head _) xsn))))) (show ([7, 8, 0, 2, 5, 6] : List Nat).Nodup from by decide) (hK62 v0 v2 v5 v6 (v7 + (1 : Int32)) M1)
def f_Rule_dayOfSet_62 (O : Nat → Option va_E) (f : Nat) : Nat → Nat → Int32 → Int32 → Int32 → Int32 → xM → Option (Int32 × xM)
  | 0, _, _, _, _, _, _ => none
  | n + 1, v0, v2, v5, v6, v7, M =>
    if v2 ≤ v7 then (
      some ((-1 : Int32), M)
    ) else
    (gI O M v0 9 4).bind fun x1 =>
    if x1 ≤ 0 then (
      f_Rule_dayOfSet_88 O f (f_Rule_dayOfSet_62 O f n) v0 v2 v5 v6 v7 (v6 - v7) M
    ) else
    f_Rule_dayOfSet_88 O f (f_Rule_dayOfSet_62 O f n) v0 v2 v5 v6 v7 (v6 + v7) M
set_option maxRecDepth 20000 in
theorem k_f_Rule_dayOfSet_62 (O : Nat → Option va_E) (f d : Nat) : ∀ (n : Nat) (v0 : Nat) (v2 : Int32) (v5 : Int32) (v6 : Int32) (v7 : Int32) (M : xM), xZ oI O (d + 1) 56 62 [(0, .ref v0), (2, .int v2), (5, .int v5), (6, .int v6), (7, .int v7)] [] M (f_Rule_dayOfSet_62 O f n v0 v2 v5 v6 v7 M) := by
  intro n
  induction n with
  | zero =>
    intro v0 v2 v5 v6 v7 M
    exact xZ.no
  | succ n ih =>
    intro v0 v2 v5 v6 v7 M
    unfold f_Rule_dayOfSet_62
    refine xZ.adv (me := xm56) hP_56 2 (pc' := 65) (lv' := [(0, .ref v0), (2, .int v2), (5, .int v5), (6, .int v6), (7, .int v7)]) (st' := [.int v2, .int v7]) rfl ?_
    refine xZ.ic_ge (me := xm56) hP_56 rfl (fun h1 => ?_) (fun h1 => ?_)
    · skip
      refine xZ.adv (me := xm56) hP_56 1 (pc' := 124) (lv' := [(0, .ref v0), (2, .int v2), (5, .int v5), (6, .int v6), (7, .int v7)]) (st' := [.int (-1 : Int32)]) rfl ?_
      exact xZ.reti (me := xm56) hP_56 rfl rfl
    · skip
      refine xZ.adv (me := xm56) hP_56 1 (pc' := 69) (lv' := [(0, .ref v0), (2, .int v2), (5, .int v5), (6, .int v6), (7, .int v7)]) (st' := [.ref v0]) rfl ?_
      refine xZ.k_gI (me := xm56) hP_56 rfl (fun x1 => ?_)
      refine xZ.if_le (me := xm56) hP_56 rfl (fun h2 => ?_) (fun h2 => ?_)
      · skip
        refine xZ.adv (me := xm56) hP_56 3 (pc' := 88) (lv' := [(0, .ref v0), (2, .int v2), (5, .int v5), (6, .int v6), (7, .int v7)]) (st' := [.int (v6 - v7)]) rfl ?_
        exact (k_f_Rule_dayOfSet_88 O f d (f_Rule_dayOfSet_62 O f n) ih v0 v2 v5 v6 v7 (v6 - v7) M)
      · skip
        refine xZ.adv (me := xm56) hP_56 4 (pc' := 88) (lv' := [(0, .ref v0), (2, .int v2), (5, .int v5), (6, .int v6), (7, .int v7)]) (st' := [.int (v6 + v7)]) rfl ?_
        exact (k_f_Rule_dayOfSet_88 O f d (f_Rule_dayOfSet_62 O f n) ih v0 v2 v5 v6 v7 (v6 + v7) M)
def f_Rule_dayOfSet_51 (O : Nat → Option va_E) (f : Nat) (v0 : Nat) (v2 : Int32) (v3 : Int32) (v4 : Int32) (v5 : Int32) (s0 : Int32) (M : xM) : Option (Int32 × xM) :=
  if v3 = 0 then none else xlet (v4 / v3) fun x1 =>
  f_Rule_dayOfSet_62 O f f v0 v2 v5 s0 (x1 * (7 : Int32)) M
set_option maxRecDepth 20000 in
theorem k_f_Rule_dayOfSet_51 (O : Nat → Option va_E) (f d : Nat) (v0 : Nat) (v2 : Int32) (v3 : Int32) (v4 : Int32) (v5 : Int32) (s0 : Int32) (M : xM) : xZ oI O (d + 1) 56 51 [(0, .ref v0), (2, .int v2), (3, .int v3), (4, .int v4), (5, .int v5)] [.int s0] M (f_Rule_dayOfSet_51 O f v0 v2 v3 v4 v5 s0 M) := by
  unfold f_Rule_dayOfSet_51
  refine xZ.adv (me := xm56) hP_56 3 (pc' := 56) (lv' := [(6, .int s0), (0, .ref v0), (2, .int v2), (3, .int v3), (4, .int v4), (5, .int v5)]) (st' := [.int v3, .int v4]) rfl ?_
  refine xZ.div (me := xm56) hP_56 rfl (fun x1 => ?_)
  refine xZ.adv (me := xm56) hP_56 3 (pc' := 62) (lv' := [(7, .int (x1 * (7 : Int32))), (6, .int s0), (0, .ref v0), (2, .int v2), (3, .int v3), (4, .int v4), (5, .int v5)]) (st' := []) rfl ?_
  exact xZ.sub (xsc (.tail _ (.tail _ (.head _))) (xsc (.tail _ (.tail _ (.tail _ (.head _)))) (xsc (.tail _ (.tail _ (.tail _ (.tail _ (.tail _ (.tail _ (.head _))))))) (xsc (.tail _ (.head _)) (xsc (.head _) xsn))))) (show ([7, 6, 0, 2, 3, 4, 5] : List Nat).Nodup from by decide) (k_f_Rule_dayOfSet_62 O f d f v0 v2 v5 s0 (x1 * (7 : Int32)) M)
def f_Rule_dayOfSet (O : Nat → Option va_E) (f : Nat) (v0 : Nat) (v1 : Int32) (v2 : Int32) (M : xM) : Option (Int32 × xM) :=
  (gI O M v0 9 3).bind fun x1 =>
  xcl (f_Integer_bitCount O f (x1 &&& (127 : Int32)) M) fun x2 M1 =>
  if (1 : Int32) ≤ x2 then (
    (gI O M1 v0 9 4).bind fun x3 =>
    xcl (f_Math_abs O f x3 M1) fun x4 M2 =>
    if x2 = 0 then none else xlet ((x4 - (1 : Int32)) - (x4 - (1 : Int32)) / x2 * x2) fun x5 =>
    (gI O M2 v0 9 4).bind fun x6 =>
    if x6 ≤ 0 then (
      f_Rule_dayOfSet_51 O f v0 v2 x2 (x4 - (1 : Int32)) x5 ((v1 + v2) - (1 : Int32)) M2
    ) else
    f_Rule_dayOfSet_51 O f v0 v2 x2 (x4 - (1 : Int32)) x5 v1 M2
  ) else
  some ((-1 : Int32), M1)
set_option maxRecDepth 20000 in
theorem k_f_Rule_dayOfSet (O : Nat → Option va_E) (f d : Nat) (v0 : Nat) (v1 : Int32) (v2 : Int32) (M : xM) : xZ oI O (d + 1) 56 0 [(0, .ref v0), (1, .int v1), (2, .int v2)] [] M (f_Rule_dayOfSet O f v0 v1 v2 M) := by
  unfold f_Rule_dayOfSet
  refine xZ.adv (me := xm56) hP_56 1 (pc' := 1) (lv' := [(0, .ref v0), (1, .int v1), (2, .int v2)]) (st' := [.ref v0]) rfl ?_
  refine xZ.k_gI (me := xm56) hP_56 rfl (fun x1 => ?_)
  refine xZ.adv (me := xm56) hP_56 2 (pc' := 7) (lv' := [(0, .ref v0), (1, .int v1), (2, .int v2)]) (st' := [.int (x1 &&& (127 : Int32))]) rfl ?_
  refine xZ.calls (κ := oI) (av := [.int (x1 &&& (127 : Int32))]) (rest := []) (st' := fun x2 => [.int x2]) (me := xm56) hP_56 rfl rfl rfl (Nat.le_of_ble_eq_true rfl) (by decide) hP_252 (Nat.le_of_ble_eq_true rfl) (fun _ => rfl) (k_f_Integer_bitCount O f (d + 0) (x1 &&& (127 : Int32)) M) (fun x2 M1 => ?_)
  refine xZ.adv (me := xm56) hP_56 3 (pc' := 13) (lv' := [(3, .int x2), (0, .ref v0), (1, .int v1), (2, .int v2)]) (st' := [.int (1 : Int32), .int x2]) rfl ?_
  refine xZ.ic_ge (me := xm56) hP_56 rfl (fun h1 => ?_) (fun h1 => ?_)
  · skip
    refine xZ.adv (me := xm56) hP_56 1 (pc' := 19) (lv' := [(3, .int x2), (0, .ref v0), (1, .int v1), (2, .int v2)]) (st' := [.ref v0]) rfl ?_
    refine xZ.k_gI (me := xm56) hP_56 rfl (fun x3 => ?_)
    refine xZ.calls (κ := oI) (av := [.int x3]) (rest := []) (st' := fun x4 => [.int x4]) (me := xm56) hP_56 rfl rfl rfl (Nat.le_of_ble_eq_true rfl) (by decide) hP_249 (Nat.le_of_ble_eq_true rfl) (fun _ => rfl) (k_f_Math_abs O f (d + 0) x3 M1) (fun x4 M2 => ?_)
    refine xZ.adv (me := xm56) hP_56 5 (pc' := 32) (lv' := [(4, .int (x4 - (1 : Int32))), (3, .int x2), (0, .ref v0), (1, .int v1), (2, .int v2)]) (st' := [.int x2, .int (x4 - (1 : Int32))]) rfl ?_
    refine xZ.rem (me := xm56) hP_56 rfl (fun x5 => ?_)
    refine xZ.adv (me := xm56) hP_56 2 (pc' := 36) (lv' := [(5, .int x5), (4, .int (x4 - (1 : Int32))), (3, .int x2), (0, .ref v0), (1, .int v1), (2, .int v2)]) (st' := [.ref v0]) rfl ?_
    refine xZ.k_gI (me := xm56) hP_56 rfl (fun x6 => ?_)
    refine xZ.if_le (me := xm56) hP_56 rfl (fun h2 => ?_) (fun h2 => ?_)
    · skip
      refine xZ.adv (me := xm56) hP_56 5 (pc' := 51) (lv' := [(5, .int x5), (4, .int (x4 - (1 : Int32))), (3, .int x2), (0, .ref v0), (1, .int v1), (2, .int v2)]) (st' := [.int ((v1 + v2) - (1 : Int32))]) rfl ?_
      exact xZ.sub (xsc (.tail _ (.tail _ (.tail _ (.head _)))) (xsc (.tail _ (.tail _ (.tail _ (.tail _ (.tail _ (.head _)))))) (xsc (.tail _ (.tail _ (.head _))) (xsc (.tail _ (.head _)) (xsc (.head _) xsn))))) (show ([5, 4, 3, 0, 1, 2] : List Nat).Nodup from by decide) (k_f_Rule_dayOfSet_51 O f d v0 v2 x2 (x4 - (1 : Int32)) x5 ((v1 + v2) - (1 : Int32)) M2)
    · skip
      refine xZ.adv (me := xm56) hP_56 2 (pc' := 51) (lv' := [(5, .int x5), (4, .int (x4 - (1 : Int32))), (3, .int x2), (0, .ref v0), (1, .int v1), (2, .int v2)]) (st' := [.int v1]) rfl ?_
      exact xZ.sub (xsc (.tail _ (.tail _ (.tail _ (.head _)))) (xsc (.tail _ (.tail _ (.tail _ (.tail _ (.tail _ (.head _)))))) (xsc (.tail _ (.tail _ (.head _))) (xsc (.tail _ (.head _)) (xsc (.head _) xsn))))) (show ([5, 4, 3, 0, 1, 2] : List Nat).Nodup from by decide) (k_f_Rule_dayOfSet_51 O f d v0 v2 x2 (x4 - (1 : Int32)) x5 v1 M2)
  · skip
    refine xZ.adv (me := xm56) hP_56 1 (pc' := 17) (lv' := [(3, .int x2), (0, .ref v0), (1, .int v1), (2, .int v2)]) (st' := [.int (-1 : Int32)]) rfl ?_
    exact xZ.reti (me := xm56) hP_56 rfl rfl
def f_Rule_dayInMonth_76 (O : Nat → Option va_E) (f : Nat) (v2 : Int32) (v3 : Int32) (v4 : Int32) (M : xM) : Option (Int32 × xM) :=
  if v4 < 0 then (
    some ((-1 : Int32), M)
  ) else
  if v3 ≤ v4 then (
    some ((-1 : Int32), M)
  ) else
  some ((v2 + v4), M)
set_option maxRecDepth 20000 in
theorem k_f_Rule_dayInMonth_76 (O : Nat → Option va_E) (f d : Nat) (v2 : Int32) (v3 : Int32) (v4 : Int32) (M : xM) : xZ oI O (d + 2) 53 76 [(2, .int v2), (3, .int v3), (4, .int v4)] [] M (f_Rule_dayInMonth_76 O f v2 v3 v4 M) := by
  unfold f_Rule_dayInMonth_76
  refine xZ.adv (me := xm53) hP_53 1 (pc' := 78) (lv' := [(2, .int v2), (3, .int v3), (4, .int v4)]) (st' := [.int v4]) rfl ?_
  refine xZ.if_lt (me := xm53) hP_53 rfl (fun h1 => ?_) (fun h1 => ?_)
  · skip
    refine xZ.adv (me := xm53) hP_53 1 (pc' := 95) (lv' := [(2, .int v2), (3, .int v3), (4, .int v4)]) (st' := [.int (-1 : Int32)]) rfl ?_
    exact xZ.reti (me := xm53) hP_53 rfl rfl
  · skip
    refine xZ.adv (me := xm53) hP_53 2 (pc' := 84) (lv' := [(2, .int v2), (3, .int v3), (4, .int v4)]) (st' := [.int v3, .int v4]) rfl ?_
    refine xZ.ic_ge (me := xm53) hP_53 rfl (fun h2 => ?_) (fun h2 => ?_)
    · skip
      refine xZ.adv (me := xm53) hP_53 1 (pc' := 95) (lv' := [(2, .int v2), (3, .int v3), (4, .int v4)]) (st' := [.int (-1 : Int32)]) rfl ?_
      exact xZ.reti (me := xm53) hP_53 rfl rfl
    · skip
      refine xZ.adv (me := xm53) hP_53 4 (pc' := 95) (lv' := [(2, .int v2), (3, .int v3), (4, .int v4)]) (st' := [.int (v2 + v4)]) rfl ?_
      exact xZ.reti (me := xm53) hP_53 rfl rfl
def f_Rule_dayInMonth (O : Nat → Option va_E) (f : Nat) (v0 : Nat) (v1 : Int32) (M : xM) : Option (Int32 × xM) :=
  xcl (f_Days_monthBegin O f v1 M) fun x1 M1 =>
  xcl (f_Days_monthLength O f v1 M1) fun x2 M2 =>
  (gI O M2 v0 9 1).bind fun x3 =>
  if x3 = (4 : Int32) then (
    (isO O M2 v0 9).bind fun _ =>
    xcl (f_Rule_dayOfSet O f v0 x1 x2 M2) fun x4 M3 =>
    some (x4, M3)
  ) else
  (gI O M2 v0 9 4).bind fun x5 =>
  (gI O M2 v0 9 1).bind fun x6 =>
  if x6 = (5 : Int32) then (
    (gI O M2 v0 9 0).bind fun x7 =>
    (gI O M2 v0 9 0).bind fun x8 =>
    xcl (f_Days_monthOf O f x8 M2) fun x9 M4 =>
    xcl (f_Days_monthBegin O f x9 M4) fun x10 M5 =>
    f_Rule_dayInMonth_76 O f x1 x2 (x7 - x10) M5
  ) else
  (gI O M2 v0 9 4).bind fun x11 =>
  if 0 ≤ x11 then (
    f_Rule_dayInMonth_76 O f x1 x2 (x5 - (1 : Int32)) M2
  ) else
  (gI O M2 v0 9 4).bind fun x12 =>
  f_Rule_dayInMonth_76 O f x1 x2 (x2 + x12) M2
set_option maxRecDepth 20000 in
theorem k_f_Rule_dayInMonth (O : Nat → Option va_E) (f d : Nat) (v0 : Nat) (v1 : Int32) (M : xM) : xZ oI O (d + 2) 53 0 [(0, .ref v0), (1, .int v1)] [] M (f_Rule_dayInMonth O f v0 v1 M) := by
  unfold f_Rule_dayInMonth
  refine xZ.adv (me := xm53) hP_53 1 (pc' := 1) (lv' := [(0, .ref v0), (1, .int v1)]) (st' := [.int v1]) rfl ?_
  refine xZ.calls (κ := oI) (av := [.int v1]) (rest := []) (st' := fun x1 => [.int x1]) (me := xm53) hP_53 rfl rfl rfl (Nat.le_of_ble_eq_true rfl) (by decide) hP_54 (Nat.le_of_ble_eq_true rfl) (fun _ => rfl) (k_f_Days_monthBegin O f (d + 1) v1 M) (fun x1 M1 => ?_)
  refine xZ.adv (me := xm53) hP_53 2 (pc' := 6) (lv' := [(2, .int x1), (0, .ref v0), (1, .int v1)]) (st' := [.int v1]) rfl ?_
  refine xZ.calls (κ := oI) (av := [.int v1]) (rest := []) (st' := fun x2 => [.int x2]) (me := xm53) hP_53 rfl rfl rfl (Nat.le_of_ble_eq_true rfl) (by decide) hP_55 (Nat.le_of_ble_eq_true rfl) (fun _ => rfl) (k_f_Days_monthLength O f (d + 1) v1 M1) (fun x2 M2 => ?_)
  refine xZ.adv (me := xm53) hP_53 2 (pc' := 11) (lv' := [(3, .int x2), (2, .int x1), (0, .ref v0), (1, .int v1)]) (st' := [.ref v0]) rfl ?_
  refine xZ.k_gI (me := xm53) hP_53 rfl (fun x3 => ?_)
  refine xZ.adv (me := xm53) hP_53 1 (pc' := 15) (lv' := [(3, .int x2), (2, .int x1), (0, .ref v0), (1, .int v1)]) (st' := [.int (4 : Int32), .int x3]) rfl ?_
  refine xZ.ic_ne (me := xm53) hP_53 rfl (fun h1 => ?_) (fun h1 => ?_)
  · skip
    refine xZ.adv (me := xm53) hP_53 3 (pc' := 21) (lv' := [(3, .int x2), (2, .int x1), (0, .ref v0), (1, .int v1)]) (st' := [.int x2, .int x1, .ref v0]) rfl ?_
    refine xZ.callv (κ := oI) (av := [.int x1, .int x2]) (rest := []) (st' := fun x4 => [.int x4]) (k0 := v0) (me := xm53) hP_53 rfl (Or.inl rfl) ⟨rfl, by decide⟩ rfl rfl (Nat.le_of_ble_eq_true rfl) (by decide) hP_56 (Nat.le_of_ble_eq_true rfl) (fun _ => rfl) (k_f_Rule_dayOfSet O f (d + 0) v0 x1 x2 M2) (fun x4 M3 => ?_)
    exact xZ.reti (me := xm53) hP_53 rfl rfl
  · skip
    refine xZ.adv (me := xm53) hP_53 1 (pc' := 26) (lv' := [(3, .int x2), (2, .int x1), (0, .ref v0), (1, .int v1)]) (st' := [.ref v0]) rfl ?_
    refine xZ.k_gI (me := xm53) hP_53 rfl (fun x5 => ?_)
    refine xZ.adv (me := xm53) hP_53 4 (pc' := 34) (lv' := [(4, .int (x5 - (1 : Int32))), (3, .int x2), (2, .int x1), (0, .ref v0), (1, .int v1)]) (st' := [.ref v0]) rfl ?_
    refine xZ.k_gI (me := xm53) hP_53 rfl (fun x6 => ?_)
    refine xZ.adv (me := xm53) hP_53 1 (pc' := 38) (lv' := [(4, .int (x5 - (1 : Int32))), (3, .int x2), (2, .int x1), (0, .ref v0), (1, .int v1)]) (st' := [.int (5 : Int32), .int x6]) rfl ?_
    refine xZ.ic_ne (me := xm53) hP_53 rfl (fun h2 => ?_) (fun h2 => ?_)
    · skip
      refine xZ.adv (me := xm53) hP_53 1 (pc' := 42) (lv' := [(4, .int (x5 - (1 : Int32))), (3, .int x2), (2, .int x1), (0, .ref v0), (1, .int v1)]) (st' := [.ref v0]) rfl ?_
      refine xZ.k_gI (me := xm53) hP_53 rfl (fun x7 => ?_)
      refine xZ.adv (me := xm53) hP_53 1 (pc' := 46) (lv' := [(4, .int (x5 - (1 : Int32))), (3, .int x2), (2, .int x1), (0, .ref v0), (1, .int v1)]) (st' := [.ref v0, .int x7]) rfl ?_
      refine xZ.k_gI (me := xm53) hP_53 rfl (fun x8 => ?_)
      refine xZ.calls (κ := oI) (av := [.int x8]) (rest := [.int x7]) (st' := fun x9 => [.int x9, .int x7]) (me := xm53) hP_53 rfl rfl rfl (Nat.le_of_ble_eq_true rfl) (by decide) hP_52 (Nat.le_of_ble_eq_true rfl) (fun _ => rfl) (k_f_Days_monthOf O f (d + 1) x8 M2) (fun x9 M4 => ?_)
      refine xZ.calls (κ := oI) (av := [.int x9]) (rest := [.int x7]) (st' := fun x10 => [.int x10, .int x7]) (me := xm53) hP_53 rfl rfl rfl (Nat.le_of_ble_eq_true rfl) (by decide) hP_54 (Nat.le_of_ble_eq_true rfl) (fun _ => rfl) (k_f_Days_monthBegin O f (d + 1) x9 M4) (fun x10 M5 => ?_)
      refine xZ.adv (me := xm53) hP_53 3 (pc' := 76) (lv' := [(4, .int (x7 - x10)), (3, .int x2), (2, .int x1), (0, .ref v0), (1, .int v1)]) (st' := []) rfl ?_
      exact xZ.sub (xsc (.tail _ (.tail _ (.head _))) (xsc (.tail _ (.head _)) (xsc (.head _) xsn))) (show ([4, 3, 2, 0, 1] : List Nat).Nodup from by decide) (k_f_Rule_dayInMonth_76 O f d x1 x2 (x7 - x10) M5)
    · skip
      refine xZ.adv (me := xm53) hP_53 1 (pc' := 62) (lv' := [(4, .int (x5 - (1 : Int32))), (3, .int x2), (2, .int x1), (0, .ref v0), (1, .int v1)]) (st' := [.ref v0]) rfl ?_
      refine xZ.k_gI (me := xm53) hP_53 rfl (fun x11 => ?_)
      refine xZ.if_ge (me := xm53) hP_53 rfl (fun h3 => ?_) (fun h3 => ?_)
      · skip
        exact xZ.sub (xsc (.tail _ (.tail _ (.head _))) (xsc (.tail _ (.head _)) (xsc (.head _) xsn))) (show ([4, 3, 2, 0, 1] : List Nat).Nodup from by decide) (k_f_Rule_dayInMonth_76 O f d x1 x2 (x5 - (1 : Int32)) M2)
      · skip
        refine xZ.adv (me := xm53) hP_53 2 (pc' := 70) (lv' := [(4, .int (x5 - (1 : Int32))), (3, .int x2), (2, .int x1), (0, .ref v0), (1, .int v1)]) (st' := [.ref v0, .int x2]) rfl ?_
        refine xZ.k_gI (me := xm53) hP_53 rfl (fun x12 => ?_)
        refine xZ.adv (me := xm53) hP_53 2 (pc' := 76) (lv' := [(4, .int (x2 + x12)), (3, .int x2), (2, .int x1), (0, .ref v0), (1, .int v1)]) (st' := []) rfl ?_
        exact xZ.sub (xsc (.tail _ (.tail _ (.head _))) (xsc (.tail _ (.head _)) (xsc (.head _) xsn))) (show ([4, 3, 2, 0, 1] : List Nat).Nodup from by decide) (k_f_Rule_dayInMonth_76 O f d x1 x2 (x2 + x12) M2)
def f_Rule_nextByMonths_47 (O : Nat → Option va_E) (f : Nat) : Nat → Nat → Int32 → Int32 → Int32 → Int32 → xM → Option (Int32 × xM)
  | 0, _, _, _, _, _, _ => none
  | n + 1, v0, v1, v2, v5, v6, M =>
    if v5 < v6 then (
      some ((-1 : Int32), M)
    ) else
    (isO O M v0 9).bind fun _ =>
    xcl (f_Rule_dayInMonth O f v0 v6 M) fun x1 M1 =>
    if x1 < v1 then (
      f_Rule_nextByMonths_47 O f n v0 v1 v2 v5 (v6 + v2) M1
    ) else
    some (x1, M1)
set_option maxRecDepth 20000 in
theorem k_f_Rule_nextByMonths_47 (O : Nat → Option va_E) (f d : Nat) : ∀ (n : Nat) (v0 : Nat) (v1 : Int32) (v2 : Int32) (v5 : Int32) (v6 : Int32) (M : xM), xZ oI O (d + 3) 50 47 [(0, .ref v0), (1, .int v1), (2, .int v2), (5, .int v5), (6, .int v6)] [] M (f_Rule_nextByMonths_47 O f n v0 v1 v2 v5 v6 M) := by
  intro n
  induction n with
  | zero =>
    intro v0 v1 v2 v5 v6 M
    exact xZ.no
  | succ n ih =>
    intro v0 v1 v2 v5 v6 M
    unfold f_Rule_nextByMonths_47
    refine xZ.adv (me := xm50) hP_50 2 (pc' := 51) (lv' := [(0, .ref v0), (1, .int v1), (2, .int v2), (5, .int v5), (6, .int v6)]) (st' := [.int v5, .int v6]) rfl ?_
    refine xZ.ic_gt (me := xm50) hP_50 rfl (fun h1 => ?_) (fun h1 => ?_)
    · skip
      refine xZ.adv (me := xm50) hP_50 1 (pc' := 81) (lv' := [(0, .ref v0), (1, .int v1), (2, .int v2), (5, .int v5), (6, .int v6)]) (st' := [.int (-1 : Int32)]) rfl ?_
      exact xZ.reti (me := xm50) hP_50 rfl rfl
    · skip
      refine xZ.adv (me := xm50) hP_50 2 (pc' := 57) (lv' := [(0, .ref v0), (1, .int v1), (2, .int v2), (5, .int v5), (6, .int v6)]) (st' := [.int v6, .ref v0]) rfl ?_
      refine xZ.callv (κ := oI) (av := [.int v6]) (rest := []) (st' := fun x1 => [.int x1]) (k0 := v0) (me := xm50) hP_50 rfl (Or.inl rfl) ⟨rfl, by decide⟩ rfl rfl (Nat.le_of_ble_eq_true rfl) (by decide) hP_53 (Nat.le_of_ble_eq_true rfl) (fun _ => rfl) (k_f_Rule_dayInMonth O f (d + 0) v0 v6 M) (fun x1 M1 => ?_)
      refine xZ.adv (me := xm50) hP_50 3 (pc' := 65) (lv' := [(7, .int x1), (0, .ref v0), (1, .int v1), (2, .int v2), (5, .int v5), (6, .int v6)]) (st' := [.int v1, .int x1]) rfl ?_
      refine xZ.ic_lt (me := xm50) hP_50 rfl (fun h2 => ?_) (fun h2 => ?_)
      · skip
        refine xZ.adv (me := xm50) hP_50 5 (pc' := 47) (lv' := [(6, .int (v6 + v2)), (7, .int x1), (0, .ref v0), (1, .int v1), (2, .int v2), (5, .int v5)]) (st' := []) rfl ?_
        exact xZ.sub (xsc (.tail _ (.tail _ (.head _))) (xsc (.tail _ (.tail _ (.tail _ (.head _)))) (xsc (.tail _ (.tail _ (.tail _ (.tail _ (.head _))))) (xsc (.tail _ (.tail _ (.tail _ (.tail _ (.tail _ (.head _)))))) (xsc (.head _) xsn))))) (show ([6, 7, 0, 1, 2, 5] : List Nat).Nodup from by decide) (ih v0 v1 v2 v5 (v6 + v2) M1)
      · skip
        refine xZ.adv (me := xm50) hP_50 1 (pc' := 70) (lv' := [(7, .int x1), (0, .ref v0), (1, .int v1), (2, .int v2), (5, .int v5), (6, .int v6)]) (st' := [.int x1]) rfl ?_
        exact xZ.reti (me := xm50) hP_50 rfl rfl
def f_Rule_nextByMonths (O : Nat → Option va_E) (f : Nat) (v0 : Nat) (v1 : Int32) (M : xM) : Option (Int32 × xM) :=
  (isO O M v0 9).bind fun _ =>
  xcl (f_Rule_monthStep O f v0 M) fun x1 M1 =>
  xcl (f_Days_monthOf O f v1 M1) fun x2 M2 =>
  (gI O M2 v0 9 0).bind fun x3 =>
  xcl (f_Days_monthOf O f x3 M2) fun x4 M3 =>
  (gI O M3 v0 9 7).bind fun x5 =>
  xcl (f_Days_monthOf O f x5 M3) fun x6 M4 =>
  if (1 : Int32) ≤ x1 then (
    xcl (f_Math_floorMod O f (x4 - x2) x1 M4) fun x7 M5 =>
    f_Rule_nextByMonths_47 O f f v0 v1 x1 x6 (x2 + x7) M5
  ) else
  some ((-1 : Int32), M4)
set_option maxRecDepth 20000 in
theorem k_f_Rule_nextByMonths (O : Nat → Option va_E) (f d : Nat) (v0 : Nat) (v1 : Int32) (M : xM) : xZ oI O (d + 3) 50 0 [(0, .ref v0), (1, .int v1)] [] M (f_Rule_nextByMonths O f v0 v1 M) := by
  unfold f_Rule_nextByMonths
  refine xZ.adv (me := xm50) hP_50 1 (pc' := 1) (lv' := [(0, .ref v0), (1, .int v1)]) (st' := [.ref v0]) rfl ?_
  refine xZ.callv (κ := oI) (av := []) (rest := []) (st' := fun x1 => [.int x1]) (k0 := v0) (me := xm50) hP_50 rfl (Or.inl rfl) ⟨rfl, by decide⟩ rfl rfl (Nat.le_of_ble_eq_true rfl) (by decide) hP_51 (Nat.le_of_ble_eq_true rfl) (fun _ => rfl) (k_f_Rule_monthStep O f (d + 1) v0 M) (fun x1 M1 => ?_)
  refine xZ.adv (me := xm50) hP_50 2 (pc' := 6) (lv' := [(2, .int x1), (0, .ref v0), (1, .int v1)]) (st' := [.int v1]) rfl ?_
  refine xZ.calls (κ := oI) (av := [.int v1]) (rest := []) (st' := fun x2 => [.int x2]) (me := xm50) hP_50 rfl rfl rfl (Nat.le_of_ble_eq_true rfl) (by decide) hP_52 (Nat.le_of_ble_eq_true rfl) (fun _ => rfl) (k_f_Days_monthOf O f (d + 2) v1 M1) (fun x2 M2 => ?_)
  refine xZ.adv (me := xm50) hP_50 2 (pc' := 11) (lv' := [(3, .int x2), (2, .int x1), (0, .ref v0), (1, .int v1)]) (st' := [.ref v0]) rfl ?_
  refine xZ.k_gI (me := xm50) hP_50 rfl (fun x3 => ?_)
  refine xZ.calls (κ := oI) (av := [.int x3]) (rest := []) (st' := fun x4 => [.int x4]) (me := xm50) hP_50 rfl rfl rfl (Nat.le_of_ble_eq_true rfl) (by decide) hP_52 (Nat.le_of_ble_eq_true rfl) (fun _ => rfl) (k_f_Days_monthOf O f (d + 2) x3 M2) (fun x4 M3 => ?_)
  refine xZ.adv (me := xm50) hP_50 2 (pc' := 20) (lv' := [(4, .int x4), (3, .int x2), (2, .int x1), (0, .ref v0), (1, .int v1)]) (st' := [.ref v0]) rfl ?_
  refine xZ.k_gI (me := xm50) hP_50 rfl (fun x5 => ?_)
  refine xZ.calls (κ := oI) (av := [.int x5]) (rest := []) (st' := fun x6 => [.int x6]) (me := xm50) hP_50 rfl rfl rfl (Nat.le_of_ble_eq_true rfl) (by decide) hP_52 (Nat.le_of_ble_eq_true rfl) (fun _ => rfl) (k_f_Days_monthOf O f (d + 2) x5 M3) (fun x6 M4 => ?_)
  refine xZ.adv (me := xm50) hP_50 3 (pc' := 30) (lv' := [(5, .int x6), (4, .int x4), (3, .int x2), (2, .int x1), (0, .ref v0), (1, .int v1)]) (st' := [.int (1 : Int32), .int x1]) rfl ?_
  refine xZ.ic_ge (me := xm50) hP_50 rfl (fun h1 => ?_) (fun h1 => ?_)
  · skip
    refine xZ.adv (me := xm50) hP_50 5 (pc' := 41) (lv' := [(5, .int x6), (4, .int x4), (3, .int x2), (2, .int x1), (0, .ref v0), (1, .int v1)]) (st' := [.int x1, .int (x4 - x2), .int x2]) rfl ?_
    refine xZ.calls (κ := oI) (av := [.int (x4 - x2), .int x1]) (rest := [.int x2]) (st' := fun x7 => [.int x7, .int x2]) (me := xm50) hP_50 rfl rfl rfl (Nat.le_of_ble_eq_true rfl) (by decide) hP_250 (Nat.le_of_ble_eq_true rfl) (fun _ => rfl) (k_f_Math_floorMod O f (d + 2) (x4 - x2) x1 M4) (fun x7 M5 => ?_)
    refine xZ.adv (me := xm50) hP_50 2 (pc' := 47) (lv' := [(6, .int (x2 + x7)), (5, .int x6), (4, .int x4), (3, .int x2), (2, .int x1), (0, .ref v0), (1, .int v1)]) (st' := []) rfl ?_
    exact xZ.sub (xsc (.tail _ (.tail _ (.tail _ (.tail _ (.tail _ (.head _)))))) (xsc (.tail _ (.tail _ (.tail _ (.tail _ (.tail _ (.tail _ (.head _))))))) (xsc (.tail _ (.tail _ (.tail _ (.tail _ (.head _))))) (xsc (.tail _ (.head _)) (xsc (.head _) xsn))))) (show ([6, 5, 4, 3, 2, 0, 1] : List Nat).Nodup from by decide) (k_f_Rule_nextByMonths_47 O f d f v0 v1 x1 x6 (x2 + x7) M5)
  · skip
    refine xZ.adv (me := xm50) hP_50 1 (pc' := 34) (lv' := [(5, .int x6), (4, .int x4), (3, .int x2), (2, .int x1), (0, .ref v0), (1, .int v1)]) (st' := [.int (-1 : Int32)]) rfl ?_
    exact xZ.reti (me := xm50) hP_50 rfl rfl
def f_Rule_next_104 (O : Nat → Option va_E) (f : Nat) (v0 : Nat) (v3 : Int32) (M : xM) : Option (Int32 × xM) :=
  (gI O M v0 9 7).bind fun x1 =>
  if v3 ≤ x1 then (
    some (v3, M)
  ) else
  some ((-1 : Int32), M)
set_option maxRecDepth 20000 in
theorem k_f_Rule_next_104 (O : Nat → Option va_E) (f d : Nat) (v0 : Nat) (v3 : Int32) (M : xM) : xZ oI O (d + 4) 45 104 [(0, .ref v0), (3, .int v3)] [] M (f_Rule_next_104 O f v0 v3 M) := by
  unfold f_Rule_next_104
  refine xZ.adv (me := xm45) hP_45 2 (pc' := 106) (lv' := [(0, .ref v0), (3, .int v3)]) (st' := [.ref v0, .int v3]) rfl ?_
  refine xZ.k_gI (me := xm45) hP_45 rfl (fun x1 => ?_)
  refine xZ.ic_le (me := xm45) hP_45 rfl (fun h1 => ?_) (fun h1 => ?_)
  · skip
    refine xZ.adv (me := xm45) hP_45 1 (pc' := 117) (lv' := [(0, .ref v0), (3, .int v3)]) (st' := [.int v3]) rfl ?_
    exact xZ.reti (me := xm45) hP_45 rfl rfl
  · skip
    refine xZ.adv (me := xm45) hP_45 2 (pc' := 117) (lv' := [(0, .ref v0), (3, .int v3)]) (st' := [.int (-1 : Int32)]) rfl ?_
    exact xZ.reti (me := xm45) hP_45 rfl rfl
def f_Rule_next_50 (O : Nat → Option va_E) (f : Nat) (v0 : Nat) (s0 : Int32) (M : xM) : Option (Int32 × xM) :=
  f_Rule_next_104 O f v0 s0 M
set_option maxRecDepth 20000 in
theorem k_f_Rule_next_50 (O : Nat → Option va_E) (f d : Nat) (v0 : Nat) (s0 : Int32) (M : xM) : xZ oI O (d + 4) 45 50 [(0, .ref v0)] [.int s0] M (f_Rule_next_50 O f v0 s0 M) := by
  unfold f_Rule_next_50
  refine xZ.adv (me := xm45) hP_45 2 (pc' := 104) (lv' := [(3, .int s0), (0, .ref v0)]) (st' := []) rfl ?_
  exact xZ.sub (xsc (.tail _ (.head _)) (xsc (.head _) xsn)) (show ([3, 0] : List Nat).Nodup from by decide) (k_f_Rule_next_104 O f d v0 s0 M)
def f_Rule_next_34 (O : Nat → Option va_E) (f : Nat) (v0 : Nat) (v2 : Int32) (M : xM) : Option (Int32 × xM) :=
  (gI O M v0 9 0).bind fun x1 =>
  if v2 = x1 then (
    (gI O M v0 9 0).bind fun x2 =>
    f_Rule_next_50 O f v0 x2 M
  ) else
  f_Rule_next_50 O f v0 (-1 : Int32) M
set_option maxRecDepth 20000 in
theorem k_f_Rule_next_34 (O : Nat → Option va_E) (f d : Nat) (v0 : Nat) (v2 : Int32) (M : xM) : xZ oI O (d + 4) 45 34 [(0, .ref v0), (2, .int v2)] [] M (f_Rule_next_34 O f v0 v2 M) := by
  unfold f_Rule_next_34
  refine xZ.adv (me := xm45) hP_45 2 (pc' := 36) (lv' := [(0, .ref v0), (2, .int v2)]) (st' := [.ref v0, .int v2]) rfl ?_
  refine xZ.k_gI (me := xm45) hP_45 rfl (fun x1 => ?_)
  refine xZ.ic_ne (me := xm45) hP_45 rfl (fun h1 => ?_) (fun h1 => ?_)
  · skip
    refine xZ.adv (me := xm45) hP_45 1 (pc' := 43) (lv' := [(0, .ref v0), (2, .int v2)]) (st' := [.ref v0]) rfl ?_
    refine xZ.k_gI (me := xm45) hP_45 rfl (fun x2 => ?_)
    refine xZ.adv (me := xm45) hP_45 1 (pc' := 50) (lv' := [(0, .ref v0), (2, .int v2)]) (st' := [.int x2]) rfl ?_
    exact xZ.sub (xsc (.head _) xsn) (show ([0, 2] : List Nat).Nodup from by decide) (k_f_Rule_next_50 O f d v0 x2 M)
  · skip
    refine xZ.adv (me := xm45) hP_45 1 (pc' := 50) (lv' := [(0, .ref v0), (2, .int v2)]) (st' := [.int (-1 : Int32)]) rfl ?_
    exact xZ.sub (xsc (.head _) xsn) (show ([0, 2] : List Nat).Nodup from by decide) (k_f_Rule_next_50 O f d v0 (-1 : Int32) M)
def f_Rule_next (O : Nat → Option va_E) (f : Nat) (v0 : Nat) (v1 : Int32) (M : xM) : Option (Int32 × xM) :=
  (gI O M v0 9 0).bind fun x1 =>
  xcl (f_Math_max O f v1 x1 M) fun x2 M1 =>
  (gI O M1 v0 9 7).bind fun x3 =>
  if x2 ≤ x3 then (
    (gI O M1 v0 9 1).bind fun x4 =>
    if x4 = 0 then (
      f_Rule_next_34 O f v0 x2 M1
    ) else
    (gI O M1 v0 9 2).bind fun x5 =>
    if (1 : Int32) ≤ x5 then (
      (gI O M1 v0 9 1).bind fun x6 =>
      if x6 = (1 : Int32) then (
        (gI O M1 v0 9 0).bind fun x7 =>
        (gI O M1 v0 9 2).bind fun x8 =>
        xcl (f_Math_floorMod O f (x7 - x2) x8 M1) fun x9 M2 =>
        f_Rule_next_104 O f v0 (x2 + x9) M2
      ) else
      (gI O M1 v0 9 1).bind fun x10 =>
      if x10 = (2 : Int32) then (
        (isO O M1 v0 9).bind fun _ =>
        xcl (f_Rule_nextByWeeks O f v0 x2 M1) fun x11 M3 =>
        f_Rule_next_104 O f v0 x11 M3
      ) else
      (isO O M1 v0 9).bind fun _ =>
      xcl (f_Rule_nextByMonths O f v0 x2 M1) fun x12 M4 =>
      f_Rule_next_104 O f v0 x12 M4
    ) else
    f_Rule_next_34 O f v0 x2 M1
  ) else
  some ((-1 : Int32), M1)
set_option maxRecDepth 20000 in
theorem k_f_Rule_next (O : Nat → Option va_E) (f d : Nat) (v0 : Nat) (v1 : Int32) (M : xM) : xZ oI O (d + 4) 45 0 [(0, .ref v0), (1, .int v1)] [] M (f_Rule_next O f v0 v1 M) := by
  unfold f_Rule_next
  refine xZ.adv (me := xm45) hP_45 2 (pc' := 2) (lv' := [(0, .ref v0), (1, .int v1)]) (st' := [.ref v0, .int v1]) rfl ?_
  refine xZ.k_gI (me := xm45) hP_45 rfl (fun x1 => ?_)
  refine xZ.calls (κ := oI) (av := [.int v1, .int x1]) (rest := []) (st' := fun x2 => [.int x2]) (me := xm45) hP_45 rfl rfl rfl (Nat.le_of_ble_eq_true rfl) (by decide) hP_247 (Nat.le_of_ble_eq_true rfl) (fun _ => rfl) (k_f_Math_max O f (d + 3) v1 x1 M) (fun x2 M1 => ?_)
  refine xZ.adv (me := xm45) hP_45 3 (pc' := 11) (lv' := [(2, .int x2), (0, .ref v0), (1, .int v1)]) (st' := [.ref v0, .int x2]) rfl ?_
  refine xZ.k_gI (me := xm45) hP_45 rfl (fun x3 => ?_)
  refine xZ.ic_le (me := xm45) hP_45 rfl (fun h1 => ?_) (fun h1 => ?_)
  · skip
    refine xZ.adv (me := xm45) hP_45 1 (pc' := 20) (lv' := [(2, .int x2), (0, .ref v0), (1, .int v1)]) (st' := [.ref v0]) rfl ?_
    refine xZ.k_gI (me := xm45) hP_45 rfl (fun x4 => ?_)
    refine xZ.if_eq (me := xm45) hP_45 rfl (fun h2 => ?_) (fun h2 => ?_)
    · skip
      exact xZ.sub (xsc (.tail _ (.head _)) (xsc (.head _) xsn)) (show ([2, 0, 1] : List Nat).Nodup from by decide) (k_f_Rule_next_34 O f d v0 x2 M1)
    · skip
      refine xZ.adv (me := xm45) hP_45 1 (pc' := 27) (lv' := [(2, .int x2), (0, .ref v0), (1, .int v1)]) (st' := [.ref v0]) rfl ?_
      refine xZ.k_gI (me := xm45) hP_45 rfl (fun x5 => ?_)
      refine xZ.adv (me := xm45) hP_45 1 (pc' := 31) (lv' := [(2, .int x2), (0, .ref v0), (1, .int v1)]) (st' := [.int (1 : Int32), .int x5]) rfl ?_
      refine xZ.ic_ge (me := xm45) hP_45 rfl (fun h3 => ?_) (fun h3 => ?_)
      · skip
        refine xZ.adv (me := xm45) hP_45 1 (pc' := 55) (lv' := [(2, .int x2), (0, .ref v0), (1, .int v1)]) (st' := [.ref v0]) rfl ?_
        refine xZ.k_gI (me := xm45) hP_45 rfl (fun x6 => ?_)
        refine xZ.adv (me := xm45) hP_45 1 (pc' := 59) (lv' := [(2, .int x2), (0, .ref v0), (1, .int v1)]) (st' := [.int (1 : Int32), .int x6]) rfl ?_
        refine xZ.ic_ne (me := xm45) hP_45 rfl (fun h4 => ?_) (fun h4 => ?_)
        · skip
          refine xZ.adv (me := xm45) hP_45 2 (pc' := 64) (lv' := [(2, .int x2), (0, .ref v0), (1, .int v1)]) (st' := [.ref v0, .int x2]) rfl ?_
          refine xZ.k_gI (me := xm45) hP_45 rfl (fun x7 => ?_)
          refine xZ.adv (me := xm45) hP_45 3 (pc' := 70) (lv' := [(2, .int x2), (0, .ref v0), (1, .int v1)]) (st' := [.ref v0, .int (x7 - x2), .int x2]) rfl ?_
          refine xZ.k_gI (me := xm45) hP_45 rfl (fun x8 => ?_)
          refine xZ.calls (κ := oI) (av := [.int (x7 - x2), .int x8]) (rest := [.int x2]) (st' := fun x9 => [.int x9, .int x2]) (me := xm45) hP_45 rfl rfl rfl (Nat.le_of_ble_eq_true rfl) (by decide) hP_250 (Nat.le_of_ble_eq_true rfl) (fun _ => rfl) (k_f_Math_floorMod O f (d + 3) (x7 - x2) x8 M1) (fun x9 M2 => ?_)
          refine xZ.adv (me := xm45) hP_45 3 (pc' := 104) (lv' := [(3, .int (x2 + x9)), (2, .int x2), (0, .ref v0), (1, .int v1)]) (st' := []) rfl ?_
          exact xZ.sub (xsc (.tail _ (.tail _ (.head _))) (xsc (.head _) xsn)) (show ([3, 2, 0, 1] : List Nat).Nodup from by decide) (k_f_Rule_next_104 O f d v0 (x2 + x9) M2)
        · skip
          refine xZ.adv (me := xm45) hP_45 1 (pc' := 82) (lv' := [(2, .int x2), (0, .ref v0), (1, .int v1)]) (st' := [.ref v0]) rfl ?_
          refine xZ.k_gI (me := xm45) hP_45 rfl (fun x10 => ?_)
          refine xZ.adv (me := xm45) hP_45 1 (pc' := 86) (lv' := [(2, .int x2), (0, .ref v0), (1, .int v1)]) (st' := [.int (2 : Int32), .int x10]) rfl ?_
          refine xZ.ic_ne (me := xm45) hP_45 rfl (fun h5 => ?_) (fun h5 => ?_)
          · skip
            refine xZ.adv (me := xm45) hP_45 2 (pc' := 91) (lv' := [(2, .int x2), (0, .ref v0), (1, .int v1)]) (st' := [.int x2, .ref v0]) rfl ?_
            refine xZ.callv (κ := oI) (av := [.int x2]) (rest := []) (st' := fun x11 => [.int x11]) (k0 := v0) (me := xm45) hP_45 rfl (Or.inl rfl) ⟨rfl, by decide⟩ rfl rfl (Nat.le_of_ble_eq_true rfl) (by decide) hP_46 (Nat.le_of_ble_eq_true rfl) (fun _ => rfl) (k_f_Rule_nextByWeeks O f (d + 2) v0 x2 M1) (fun x11 M3 => ?_)
            refine xZ.adv (me := xm45) hP_45 2 (pc' := 104) (lv' := [(3, .int x11), (2, .int x2), (0, .ref v0), (1, .int v1)]) (st' := []) rfl ?_
            exact xZ.sub (xsc (.tail _ (.tail _ (.head _))) (xsc (.head _) xsn)) (show ([3, 2, 0, 1] : List Nat).Nodup from by decide) (k_f_Rule_next_104 O f d v0 x11 M3)
          · skip
            refine xZ.adv (me := xm45) hP_45 2 (pc' := 100) (lv' := [(2, .int x2), (0, .ref v0), (1, .int v1)]) (st' := [.int x2, .ref v0]) rfl ?_
            refine xZ.callv (κ := oI) (av := [.int x2]) (rest := []) (st' := fun x12 => [.int x12]) (k0 := v0) (me := xm45) hP_45 rfl (Or.inl rfl) ⟨rfl, by decide⟩ rfl rfl (Nat.le_of_ble_eq_true rfl) (by decide) hP_50 (Nat.le_of_ble_eq_true rfl) (fun _ => rfl) (k_f_Rule_nextByMonths O f (d + 0) v0 x2 M1) (fun x12 M4 => ?_)
            refine xZ.adv (me := xm45) hP_45 1 (pc' := 104) (lv' := [(3, .int x12), (2, .int x2), (0, .ref v0), (1, .int v1)]) (st' := []) rfl ?_
            exact xZ.sub (xsc (.tail _ (.tail _ (.head _))) (xsc (.head _) xsn)) (show ([3, 2, 0, 1] : List Nat).Nodup from by decide) (k_f_Rule_next_104 O f d v0 x12 M4)
      · skip
        exact xZ.sub (xsc (.tail _ (.head _)) (xsc (.head _) xsn)) (show ([2, 0, 1] : List Nat).Nodup from by decide) (k_f_Rule_next_34 O f d v0 x2 M1)
  · skip
    refine xZ.adv (me := xm45) hP_45 1 (pc' := 18) (lv' := [(2, .int x2), (0, .ref v0), (1, .int v1)]) (st' := [.int (-1 : Int32)]) rfl ?_
    exact xZ.reti (me := xm45) hP_45 rfl rfl
