/-! ===== texts ===== -/
def f_Planner_numberAt (O : Nat → Option va_E) (f : Nat) (v0 : Nat) (v1 : Int32) (M : xM) : Option (Int32 × xM) :=
  if v1 < 0 then (
    some ((0 : Int32), M)
  ) else
  (gR O M v0 7 2).bind fun x1 =>
  (aN O M x1).bind fun x2 =>
  if x2 ≤ v1 then (
    some ((0 : Int32), M)
  ) else
  (gR O M v0 7 2).bind fun x3 =>
  (aL O M x3 v1).bind fun x4 =>
  xcl (f_Dates_numberOf O f x4 M) fun x5 M1 =>
  some (x5, M1)
set_option maxRecDepth 20000 in
theorem k_f_Planner_numberAt (O : Nat → Option va_E) (f d : Nat) (v0 : Nat) (v1 : Int32) (M : xM) : xZ oI O (d + 1) 213 0 [(0, .ref v0), (1, .int v1)] [] M (f_Planner_numberAt O f v0 v1 M) := by
  unfold f_Planner_numberAt
  refine xZ.adv (me := xm213) hP_213 1 (pc' := 1) (lv' := [(0, .ref v0), (1, .int v1)]) (st' := [.int v1]) rfl ?_
  refine xZ.if_lt (me := xm213) hP_213 rfl (fun h1 => ?_) (fun h1 => ?_)
  · skip
    refine xZ.adv (me := xm213) hP_213 1 (pc' := 26) (lv' := [(0, .ref v0), (1, .int v1)]) (st' := [.int (0 : Int32)]) rfl ?_
    exact xZ.reti (me := xm213) hP_213 rfl rfl
  · skip
    refine xZ.adv (me := xm213) hP_213 2 (pc' := 6) (lv' := [(0, .ref v0), (1, .int v1)]) (st' := [.ref v0, .int v1]) rfl ?_
    refine xZ.k_gR (me := xm213) hP_213 rfl (fun x1 => ?_)
    refine xZ.k_aN (me := xm213) hP_213 rfl (fun x2 => ?_)
    refine xZ.ic_ge (me := xm213) hP_213 rfl (fun h2 => ?_) (fun h2 => ?_)
    · skip
      refine xZ.adv (me := xm213) hP_213 1 (pc' := 26) (lv' := [(0, .ref v0), (1, .int v1)]) (st' := [.int (0 : Int32)]) rfl ?_
      exact xZ.reti (me := xm213) hP_213 rfl rfl
    · skip
      refine xZ.adv (me := xm213) hP_213 1 (pc' := 14) (lv' := [(0, .ref v0), (1, .int v1)]) (st' := [.ref v0]) rfl ?_
      refine xZ.k_gR (me := xm213) hP_213 rfl (fun x3 => ?_)
      refine xZ.adv (me := xm213) hP_213 1 (pc' := 18) (lv' := [(0, .ref v0), (1, .int v1)]) (st' := [.int v1, .ref x3]) rfl ?_
      refine xZ.k_aL (me := xm213) hP_213 rfl (fun x4 => ?_)
      refine xZ.calls (κ := oI) (av := [.long x4]) (rest := []) (st' := fun x5 => [.int x5]) (me := xm213) hP_213 rfl rfl rfl (Nat.le_of_ble_eq_true rfl) (by decide) hP_174 (Nat.le_of_ble_eq_true rfl) (fun _ => rfl) (k_f_Dates_numberOf O f (d + 0) x4 M) (fun x5 M1 => ?_)
      refine xZ.adv (me := xm213) hP_213 1 (pc' := 26) (lv' := [(0, .ref v0), (1, .int v1)]) (st' := [.int x5]) rfl ?_
      exact xZ.reti (me := xm213) hP_213 rfl rfl
def f_Planner_dayByPlace (O : Nat → Option va_E) (f : Nat) (v0 : Nat) (v1 : Int32) (M : xM) : Option (Int32 × xM) :=
  if v1 < 0 then (
    some ((0 : Int32), M)
  ) else
  (gR O M v0 7 2).bind fun x1 =>
  (aN O M x1).bind fun x2 =>
  if x2 ≤ v1 then (
    some ((0 : Int32), M)
  ) else
  (gR O M v0 7 2).bind fun x3 =>
  (aL O M x3 v1).bind fun x4 =>
  xcl (f_Dates_dayIn O f x4 M) fun x5 M1 =>
  some (x5, M1)
set_option maxRecDepth 20000 in
theorem k_f_Planner_dayByPlace (O : Nat → Option va_E) (f d : Nat) (v0 : Nat) (v1 : Int32) (M : xM) : xZ oI O (d + 1) 214 0 [(0, .ref v0), (1, .int v1)] [] M (f_Planner_dayByPlace O f v0 v1 M) := by
  unfold f_Planner_dayByPlace
  refine xZ.adv (me := xm214) hP_214 1 (pc' := 1) (lv' := [(0, .ref v0), (1, .int v1)]) (st' := [.int v1]) rfl ?_
  refine xZ.if_lt (me := xm214) hP_214 rfl (fun h1 => ?_) (fun h1 => ?_)
  · skip
    refine xZ.adv (me := xm214) hP_214 1 (pc' := 26) (lv' := [(0, .ref v0), (1, .int v1)]) (st' := [.int (0 : Int32)]) rfl ?_
    exact xZ.reti (me := xm214) hP_214 rfl rfl
  · skip
    refine xZ.adv (me := xm214) hP_214 2 (pc' := 6) (lv' := [(0, .ref v0), (1, .int v1)]) (st' := [.ref v0, .int v1]) rfl ?_
    refine xZ.k_gR (me := xm214) hP_214 rfl (fun x1 => ?_)
    refine xZ.k_aN (me := xm214) hP_214 rfl (fun x2 => ?_)
    refine xZ.ic_ge (me := xm214) hP_214 rfl (fun h2 => ?_) (fun h2 => ?_)
    · skip
      refine xZ.adv (me := xm214) hP_214 1 (pc' := 26) (lv' := [(0, .ref v0), (1, .int v1)]) (st' := [.int (0 : Int32)]) rfl ?_
      exact xZ.reti (me := xm214) hP_214 rfl rfl
    · skip
      refine xZ.adv (me := xm214) hP_214 1 (pc' := 14) (lv' := [(0, .ref v0), (1, .int v1)]) (st' := [.ref v0]) rfl ?_
      refine xZ.k_gR (me := xm214) hP_214 rfl (fun x3 => ?_)
      refine xZ.adv (me := xm214) hP_214 1 (pc' := 18) (lv' := [(0, .ref v0), (1, .int v1)]) (st' := [.int v1, .ref x3]) rfl ?_
      refine xZ.k_aL (me := xm214) hP_214 rfl (fun x4 => ?_)
      refine xZ.calls (κ := oI) (av := [.long x4]) (rest := []) (st' := fun x5 => [.int x5]) (me := xm214) hP_214 rfl rfl rfl (Nat.le_of_ble_eq_true rfl) (by decide) hP_123 (Nat.le_of_ble_eq_true rfl) (fun _ => rfl) (k_f_Dates_dayIn O f (d + 0) x4 M) (fun x5 M1 => ?_)
      refine xZ.adv (me := xm214) hP_214 1 (pc' := 26) (lv' := [(0, .ref v0), (1, .int v1)]) (st' := [.int x5]) rfl ?_
      exact xZ.reti (me := xm214) hP_214 rfl rfl
def f_Planner_beginAt (O : Nat → Option va_E) (f : Nat) (v0 : Nat) (v1 : Int32) (M : xM) : Option (Int32 × xM) :=
  if v1 < 0 then (
    some ((0 : Int32), M)
  ) else
  (gR O M v0 7 5).bind fun x1 =>
  (aN O M x1).bind fun x2 =>
  if x2 ≤ v1 then (
    some ((0 : Int32), M)
  ) else
  (gR O M v0 7 5).bind fun x3 =>
  (aI O M x3 v1).bind fun x4 =>
  some (x4, M)
set_option maxRecDepth 20000 in
theorem k_f_Planner_beginAt (O : Nat → Option va_E) (f d : Nat) (v0 : Nat) (v1 : Int32) (M : xM) : xZ oI O (d + 0) 215 0 [(0, .ref v0), (1, .int v1)] [] M (f_Planner_beginAt O f v0 v1 M) := by
  unfold f_Planner_beginAt
  refine xZ.adv (me := xm215) hP_215 1 (pc' := 1) (lv' := [(0, .ref v0), (1, .int v1)]) (st' := [.int v1]) rfl ?_
  refine xZ.if_lt (me := xm215) hP_215 rfl (fun h1 => ?_) (fun h1 => ?_)
  · skip
    refine xZ.adv (me := xm215) hP_215 1 (pc' := 23) (lv' := [(0, .ref v0), (1, .int v1)]) (st' := [.int (0 : Int32)]) rfl ?_
    exact xZ.reti (me := xm215) hP_215 rfl rfl
  · skip
    refine xZ.adv (me := xm215) hP_215 2 (pc' := 6) (lv' := [(0, .ref v0), (1, .int v1)]) (st' := [.ref v0, .int v1]) rfl ?_
    refine xZ.k_gR (me := xm215) hP_215 rfl (fun x1 => ?_)
    refine xZ.k_aN (me := xm215) hP_215 rfl (fun x2 => ?_)
    refine xZ.ic_ge (me := xm215) hP_215 rfl (fun h2 => ?_) (fun h2 => ?_)
    · skip
      refine xZ.adv (me := xm215) hP_215 1 (pc' := 23) (lv' := [(0, .ref v0), (1, .int v1)]) (st' := [.int (0 : Int32)]) rfl ?_
      exact xZ.reti (me := xm215) hP_215 rfl rfl
    · skip
      refine xZ.adv (me := xm215) hP_215 1 (pc' := 14) (lv' := [(0, .ref v0), (1, .int v1)]) (st' := [.ref v0]) rfl ?_
      refine xZ.k_gR (me := xm215) hP_215 rfl (fun x3 => ?_)
      refine xZ.adv (me := xm215) hP_215 1 (pc' := 18) (lv' := [(0, .ref v0), (1, .int v1)]) (st' := [.int v1, .ref x3]) rfl ?_
      refine xZ.k_aI (me := xm215) hP_215 rfl (fun x4 => ?_)
      refine xZ.adv (me := xm215) hP_215 1 (pc' := 23) (lv' := [(0, .ref v0), (1, .int v1)]) (st' := [.int x4]) rfl ?_
      exact xZ.reti (me := xm215) hP_215 rfl rfl
def f_Calendarhall_planAt (O : Nat → Option va_E) (f : Nat) (v0 : Nat) (v1 : Int32) (v2 : Int32) (M : xM) : Option (Int32 × xM) :=
  if 0 ≤ v1 then (
    xcl (f_Calendarhall_needRange O f v2 (0 : Int32) (2 : Int32) M) fun _ M1 =>
    (gR O M1 v0 12 6).bind fun x2 =>
    (gI O M1 x2 7 0).bind fun x3 =>
    if x3 = 0 then (
      none
    ) else
    (gR O M1 v0 12 6).bind fun x4 =>
    (isO O M1 x4 7).bind fun _ =>
    xcl (f_Planner_count O f x4 M1) fun x5 M2 =>
    if v1 < x5 then (
      if v2 = 0 then (
        (gR O M2 v0 12 6).bind fun x6 =>
        (isO O M2 x6 7).bind fun _ =>
        xcl (f_Planner_numberAt O f x6 v1 M2) fun x7 M3 =>
        some (x7, M3)
      ) else
      if v2 = (1 : Int32) then (
        (gR O M2 v0 12 6).bind fun x8 =>
        (isO O M2 x8 7).bind fun _ =>
        xcl (f_Planner_dayByPlace O f x8 v1 M2) fun x9 M4 =>
        some (x9, M4)
      ) else
      (gR O M2 v0 12 6).bind fun x10 =>
      (isO O M2 x10 7).bind fun _ =>
      xcl (f_Planner_beginAt O f x10 v1 M2) fun x11 M5 =>
      some (x11, M5)
    ) else
    none
  ) else
  none
set_option maxRecDepth 20000 in
theorem k_f_Calendarhall_planAt (O : Nat → Option va_E) (f d : Nat) (v0 : Nat) (v1 : Int32) (v2 : Int32) (M : xM) : xZ oI O (d + 2) 212 0 [(0, .ref v0), (1, .int v1), (2, .int v2)] [] M (f_Calendarhall_planAt O f v0 v1 v2 M) := by
  unfold f_Calendarhall_planAt
  refine xZ.adv (me := xm212) hP_212 1 (pc' := 1) (lv' := [(0, .ref v0), (1, .int v1), (2, .int v2)]) (st' := [.int v1]) rfl ?_
  refine xZ.if_ge (me := xm212) hP_212 rfl (fun h1 => ?_) (fun h1 => ?_)
  · skip
    refine xZ.adv (me := xm212) hP_212 3 (pc' := 15) (lv' := [(0, .ref v0), (1, .int v1), (2, .int v2)]) (st' := [.int (2 : Int32), .int (0 : Int32), .int v2]) rfl ?_
    refine xZ.calls (κ := oU) (av := [.int v2, .int (0 : Int32), .int (2 : Int32)]) (rest := []) (st' := fun _ => []) (me := xm212) hP_212 rfl rfl rfl (Nat.le_of_ble_eq_true rfl) (by decide) hP_22 (Nat.le_of_ble_eq_true rfl) (fun _ => rfl) (k_f_Calendarhall_needRange O f (d + 1) v2 (0 : Int32) (2 : Int32) M) (fun _ M1 => ?_)
    refine xZ.adv (me := xm212) hP_212 1 (pc' := 19) (lv' := [(0, .ref v0), (1, .int v1), (2, .int v2)]) (st' := [.ref v0]) rfl ?_
    refine xZ.k_gR (me := xm212) hP_212 rfl (fun x2 => ?_)
    refine xZ.k_gI (me := xm212) hP_212 rfl (fun x3 => ?_)
    refine xZ.if_eq (me := xm212) hP_212 rfl (fun h2 => ?_) (fun h2 => ?_)
    · skip
      exact xZ.no
    · skip
      refine xZ.adv (me := xm212) hP_212 2 (pc' := 30) (lv' := [(0, .ref v0), (1, .int v1), (2, .int v2)]) (st' := [.ref v0, .int v1]) rfl ?_
      refine xZ.k_gR (me := xm212) hP_212 rfl (fun x4 => ?_)
      refine xZ.callv (κ := oI) (av := []) (rest := [.int v1]) (st' := fun x5 => [.int x5, .int v1]) (k0 := x4) (me := xm212) hP_212 rfl (Or.inl rfl) ⟨rfl, by decide⟩ rfl rfl (Nat.le_of_ble_eq_true rfl) (by decide) hP_208 (Nat.le_of_ble_eq_true rfl) (fun _ => rfl) (k_f_Planner_count O f (d + 0) x4 M1) (fun x5 M2 => ?_)
      refine xZ.ic_lt (me := xm212) hP_212 rfl (fun h3 => ?_) (fun h3 => ?_)
      · skip
        refine xZ.adv (me := xm212) hP_212 1 (pc' := 48) (lv' := [(0, .ref v0), (1, .int v1), (2, .int v2)]) (st' := [.int v2]) rfl ?_
        refine xZ.if_ne (me := xm212) hP_212 rfl (fun h4 => ?_) (fun h4 => ?_)
        · skip
          refine xZ.adv (me := xm212) hP_212 1 (pc' := 52) (lv' := [(0, .ref v0), (1, .int v1), (2, .int v2)]) (st' := [.ref v0]) rfl ?_
          refine xZ.k_gR (me := xm212) hP_212 rfl (fun x6 => ?_)
          refine xZ.adv (me := xm212) hP_212 1 (pc' := 56) (lv' := [(0, .ref v0), (1, .int v1), (2, .int v2)]) (st' := [.int v1, .ref x6]) rfl ?_
          refine xZ.callv (κ := oI) (av := [.int v1]) (rest := []) (st' := fun x7 => [.int x7]) (k0 := x6) (me := xm212) hP_212 rfl (Or.inl rfl) ⟨rfl, by decide⟩ rfl rfl (Nat.le_of_ble_eq_true rfl) (by decide) hP_213 (Nat.le_of_ble_eq_true rfl) (fun _ => rfl) (k_f_Planner_numberAt O f (d + 0) x6 v1 M2) (fun x7 M3 => ?_)
          exact xZ.reti (me := xm212) hP_212 rfl rfl
        · skip
          refine xZ.adv (me := xm212) hP_212 2 (pc' := 62) (lv' := [(0, .ref v0), (1, .int v1), (2, .int v2)]) (st' := [.int (1 : Int32), .int v2]) rfl ?_
          refine xZ.ic_ne (me := xm212) hP_212 rfl (fun h5 => ?_) (fun h5 => ?_)
          · skip
            refine xZ.adv (me := xm212) hP_212 1 (pc' := 66) (lv' := [(0, .ref v0), (1, .int v1), (2, .int v2)]) (st' := [.ref v0]) rfl ?_
            refine xZ.k_gR (me := xm212) hP_212 rfl (fun x8 => ?_)
            refine xZ.adv (me := xm212) hP_212 1 (pc' := 70) (lv' := [(0, .ref v0), (1, .int v1), (2, .int v2)]) (st' := [.int v1, .ref x8]) rfl ?_
            refine xZ.callv (κ := oI) (av := [.int v1]) (rest := []) (st' := fun x9 => [.int x9]) (k0 := x8) (me := xm212) hP_212 rfl (Or.inl rfl) ⟨rfl, by decide⟩ rfl rfl (Nat.le_of_ble_eq_true rfl) (by decide) hP_214 (Nat.le_of_ble_eq_true rfl) (fun _ => rfl) (k_f_Planner_dayByPlace O f (d + 0) x8 v1 M2) (fun x9 M4 => ?_)
            refine xZ.adv (me := xm212) hP_212 1 (pc' := 84) (lv' := [(0, .ref v0), (1, .int v1), (2, .int v2)]) (st' := [.int x9]) rfl ?_
            exact xZ.reti (me := xm212) hP_212 rfl rfl
          · skip
            refine xZ.adv (me := xm212) hP_212 1 (pc' := 77) (lv' := [(0, .ref v0), (1, .int v1), (2, .int v2)]) (st' := [.ref v0]) rfl ?_
            refine xZ.k_gR (me := xm212) hP_212 rfl (fun x10 => ?_)
            refine xZ.adv (me := xm212) hP_212 1 (pc' := 81) (lv' := [(0, .ref v0), (1, .int v1), (2, .int v2)]) (st' := [.int v1, .ref x10]) rfl ?_
            refine xZ.callv (κ := oI) (av := [.int v1]) (rest := []) (st' := fun x11 => [.int x11]) (k0 := x10) (me := xm212) hP_212 rfl (Or.inl rfl) ⟨rfl, by decide⟩ rfl rfl (Nat.le_of_ble_eq_true rfl) (by decide) hP_215 (Nat.le_of_ble_eq_true rfl) (fun _ => rfl) (k_f_Planner_beginAt O f (d + 1) x10 v1 M2) (fun x11 M5 => ?_)
            exact xZ.reti (me := xm212) hP_212 rfl rfl
      · skip
        exact xZ.no
  · skip
    exact xZ.no
def f_Planner_newExceptions_12 (O : Nat → Option va_E) (f : Nat) : Nat → Nat → Nat → Int32 → Nat → Int32 → Int32 → xM → Option (Int32 × xM)
  | 0, _, _, _, _, _, _, _ => none
  | n + 1, v0, v1, v2, v3, v4, v5, M =>
    (isO O M v0 7).bind fun _ =>
    xcl (f_Planner_count O f v0 M) fun x1 M1 =>
    if x1 ≤ v5 then (
      some (v4, M1)
    ) else
    (isO O M1 v0 7).bind fun _ =>
    xcl (f_Planner_numberAt O f v0 v5 M1) fun x2 M2 =>
    if x2 = v2 then (
      (isO O M2 v0 7).bind fun _ =>
      xcl (f_Planner_dayByPlace O f v0 v5 M2) fun x3 M3 =>
      (isO O M3 v3 10).bind fun _ =>
      xcl (f_Series_exceptionOf O f v3 x3 M3) fun x4 M4 =>
      if x4 = (-1 : Int32) then (
        (isO O M4 v1 4).bind fun _ =>
        xcl (f_Hall_zoneOf O f v1 v3 M4) fun x5 M5 =>
        (isO O M5 v0 7).bind fun _ =>
        xcl (f_Planner_dayByPlace O f v0 v5 M5) fun x6 M6 =>
        (isO O M6 v3 10).bind fun _ =>
        xcl (f_Series_beginOf O f v3 x5 x6 M6) fun x7 M7 =>
        (isO O M7 v0 7).bind fun _ =>
        xcl (f_Planner_beginAt O f v0 v5 M7) fun x8 M8 =>
        if x7 = x8 then (
          f_Planner_newExceptions_12 O f n v0 v1 v2 v3 v4 (v5 + (1 : Int32)) M8
        ) else
        f_Planner_newExceptions_12 O f n v0 v1 v2 v3 (v4 + (1 : Int32)) (v5 + (1 : Int32)) M8
      ) else
      f_Planner_newExceptions_12 O f n v0 v1 v2 v3 v4 (v5 + (1 : Int32)) M4
    ) else
    f_Planner_newExceptions_12 O f n v0 v1 v2 v3 v4 (v5 + (1 : Int32)) M2
set_option maxRecDepth 20000 in
theorem k_f_Planner_newExceptions_12 (O : Nat → Option va_E) (f d : Nat) : ∀ (n : Nat) (v0 : Nat) (v1 : Nat) (v2 : Int32) (v3 : Nat) (v4 : Int32) (v5 : Int32) (M : xM), xZ oI O (d + 5) 218 12 [(0, .ref v0), (1, .ref v1), (2, .int v2), (3, .ref v3), (4, .int v4), (5, .int v5)] [] M (f_Planner_newExceptions_12 O f n v0 v1 v2 v3 v4 v5 M) := by
  intro n
  induction n with
  | zero =>
    intro v0 v1 v2 v3 v4 v5 M
    exact xZ.no
  | succ n ih =>
    intro v0 v1 v2 v3 v4 v5 M
    unfold f_Planner_newExceptions_12
    refine xZ.adv (me := xm218) hP_218 2 (pc' := 15) (lv' := [(0, .ref v0), (1, .ref v1), (2, .int v2), (3, .ref v3), (4, .int v4), (5, .int v5)]) (st' := [.ref v0, .int v5]) rfl ?_
    refine xZ.callv (κ := oI) (av := []) (rest := [.int v5]) (st' := fun x1 => [.int x1, .int v5]) (k0 := v0) (me := xm218) hP_218 rfl (Or.inl rfl) ⟨rfl, by decide⟩ rfl rfl (Nat.le_of_ble_eq_true rfl) (by decide) hP_208 (Nat.le_of_ble_eq_true rfl) (fun _ => rfl) (k_f_Planner_count O f (d + 3) v0 M) (fun x1 M1 => ?_)
    refine xZ.ic_ge (me := xm218) hP_218 rfl (fun h1 => ?_) (fun h1 => ?_)
    · skip
      refine xZ.adv (me := xm218) hP_218 1 (pc' := 83) (lv' := [(0, .ref v0), (1, .ref v1), (2, .int v2), (3, .ref v3), (4, .int v4), (5, .int v5)]) (st' := [.int v4]) rfl ?_
      exact xZ.reti (me := xm218) hP_218 rfl rfl
    · skip
      refine xZ.adv (me := xm218) hP_218 2 (pc' := 24) (lv' := [(0, .ref v0), (1, .ref v1), (2, .int v2), (3, .ref v3), (4, .int v4), (5, .int v5)]) (st' := [.int v5, .ref v0]) rfl ?_
      refine xZ.callv (κ := oI) (av := [.int v5]) (rest := []) (st' := fun x2 => [.int x2]) (k0 := v0) (me := xm218) hP_218 rfl (Or.inl rfl) ⟨rfl, by decide⟩ rfl rfl (Nat.le_of_ble_eq_true rfl) (by decide) hP_213 (Nat.le_of_ble_eq_true rfl) (fun _ => rfl) (k_f_Planner_numberAt O f (d + 3) v0 v5 M1) (fun x2 M2 => ?_)
      refine xZ.adv (me := xm218) hP_218 1 (pc' := 28) (lv' := [(0, .ref v0), (1, .ref v1), (2, .int v2), (3, .ref v3), (4, .int v4), (5, .int v5)]) (st' := [.int v2, .int x2]) rfl ?_
      refine xZ.ic_ne (me := xm218) hP_218 rfl (fun h2 => ?_) (fun h2 => ?_)
      · skip
        refine xZ.adv (me := xm218) hP_218 3 (pc' := 35) (lv' := [(0, .ref v0), (1, .ref v1), (2, .int v2), (3, .ref v3), (4, .int v4), (5, .int v5)]) (st' := [.int v5, .ref v0, .ref v3]) rfl ?_
        refine xZ.callv (κ := oI) (av := [.int v5]) (rest := [.ref v3]) (st' := fun x3 => [.int x3, .ref v3]) (k0 := v0) (me := xm218) hP_218 rfl (Or.inl rfl) ⟨rfl, by decide⟩ rfl rfl (Nat.le_of_ble_eq_true rfl) (by decide) hP_214 (Nat.le_of_ble_eq_true rfl) (fun _ => rfl) (k_f_Planner_dayByPlace O f (d + 3) v0 v5 M2) (fun x3 M3 => ?_)
        refine xZ.callv (κ := oI) (av := [.int x3]) (rest := []) (st' := fun x4 => [.int x4]) (k0 := v3) (me := xm218) hP_218 rfl (Or.inl rfl) ⟨rfl, by decide⟩ rfl rfl (Nat.le_of_ble_eq_true rfl) (by decide) hP_104 (Nat.le_of_ble_eq_true rfl) (fun _ => rfl) (k_f_Series_exceptionOf O f (d + 4) v3 x3 M3) (fun x4 M4 => ?_)
        refine xZ.adv (me := xm218) hP_218 1 (pc' := 42) (lv' := [(0, .ref v0), (1, .ref v1), (2, .int v2), (3, .ref v3), (4, .int v4), (5, .int v5)]) (st' := [.int (-1 : Int32), .int x4]) rfl ?_
        refine xZ.ic_eq (me := xm218) hP_218 rfl (fun h3 => ?_) (fun h3 => ?_)
        · skip
          refine xZ.adv (me := xm218) hP_218 3 (pc' := 51) (lv' := [(0, .ref v0), (1, .ref v1), (2, .int v2), (3, .ref v3), (4, .int v4), (5, .int v5)]) (st' := [.ref v3, .ref v1, .ref v3]) rfl ?_
          refine xZ.callv (κ := oR) (av := [.ref v3]) (rest := [.ref v3]) (st' := fun x5 => [.ref x5, .ref v3]) (k0 := v1) (me := xm218) hP_218 rfl (Or.inl rfl) ⟨rfl, by decide⟩ rfl rfl (Nat.le_of_ble_eq_true rfl) (by decide) hP_102 (Nat.le_of_ble_eq_true rfl) (fun _ => rfl) (k_f_Hall_zoneOf O f (d + 3) v1 v3 M4) (fun x5 M5 => ?_)
          refine xZ.adv (me := xm218) hP_218 2 (pc' := 57) (lv' := [(0, .ref v0), (1, .ref v1), (2, .int v2), (3, .ref v3), (4, .int v4), (5, .int v5)]) (st' := [.int v5, .ref v0, .ref x5, .ref v3]) rfl ?_
          refine xZ.callv (κ := oI) (av := [.int v5]) (rest := [.ref x5, .ref v3]) (st' := fun x6 => [.int x6, .ref x5, .ref v3]) (k0 := v0) (me := xm218) hP_218 rfl (Or.inl rfl) ⟨rfl, by decide⟩ rfl rfl (Nat.le_of_ble_eq_true rfl) (by decide) hP_214 (Nat.le_of_ble_eq_true rfl) (fun _ => rfl) (k_f_Planner_dayByPlace O f (d + 3) v0 v5 M5) (fun x6 M6 => ?_)
          refine xZ.callv (κ := oI) (av := [.ref x5, .int x6]) (rest := []) (st' := fun x7 => [.int x7]) (k0 := v3) (me := xm218) hP_218 rfl (Or.inl rfl) ⟨rfl, by decide⟩ rfl rfl (Nat.le_of_ble_eq_true rfl) (by decide) hP_103 (Nat.le_of_ble_eq_true rfl) (fun _ => rfl) (k_f_Series_beginOf O f (d + 0) v3 x5 x6 M6) (fun x7 M7 => ?_)
          refine xZ.adv (me := xm218) hP_218 2 (pc' := 66) (lv' := [(0, .ref v0), (1, .ref v1), (2, .int v2), (3, .ref v3), (4, .int v4), (5, .int v5)]) (st' := [.int v5, .ref v0, .int x7]) rfl ?_
          refine xZ.callv (κ := oI) (av := [.int v5]) (rest := [.int x7]) (st' := fun x8 => [.int x8, .int x7]) (k0 := v0) (me := xm218) hP_218 rfl (Or.inl rfl) ⟨rfl, by decide⟩ rfl rfl (Nat.le_of_ble_eq_true rfl) (by decide) hP_215 (Nat.le_of_ble_eq_true rfl) (fun _ => rfl) (k_f_Planner_beginAt O f (d + 4) v0 v5 M7) (fun x8 M8 => ?_)
          refine xZ.ic_eq (me := xm218) hP_218 rfl (fun h4 => ?_) (fun h4 => ?_)
          · skip
            refine xZ.adv (me := xm218) hP_218 2 (pc' := 12) (lv' := [(5, .int (v5 + (1 : Int32))), (0, .ref v0), (1, .ref v1), (2, .int v2), (3, .ref v3), (4, .int v4)]) (st' := []) rfl ?_
            exact xZ.sub (xsc (.tail _ (.head _)) (xsc (.tail _ (.tail _ (.head _))) (xsc (.tail _ (.tail _ (.tail _ (.head _)))) (xsc (.tail _ (.tail _ (.tail _ (.tail _ (.head _))))) (xsc (.tail _ (.tail _ (.tail _ (.tail _ (.tail _ (.head _)))))) (xsc (.head _) xsn)))))) (show ([5, 0, 1, 2, 3, 4] : List Nat).Nodup from by decide) (ih v0 v1 v2 v3 v4 (v5 + (1 : Int32)) M8)
          · skip
            refine xZ.adv (me := xm218) hP_218 3 (pc' := 12) (lv' := [(5, .int (v5 + (1 : Int32))), (4, .int (v4 + (1 : Int32))), (0, .ref v0), (1, .ref v1), (2, .int v2), (3, .ref v3)]) (st' := []) rfl ?_
            exact xZ.sub (xsc (.tail _ (.tail _ (.head _))) (xsc (.tail _ (.tail _ (.tail _ (.head _)))) (xsc (.tail _ (.tail _ (.tail _ (.tail _ (.head _))))) (xsc (.tail _ (.tail _ (.tail _ (.tail _ (.tail _ (.head _)))))) (xsc (.tail _ (.head _)) (xsc (.head _) xsn)))))) (show ([5, 4, 0, 1, 2, 3] : List Nat).Nodup from by decide) (ih v0 v1 v2 v3 (v4 + (1 : Int32)) (v5 + (1 : Int32)) M8)
        · skip
          refine xZ.adv (me := xm218) hP_218 3 (pc' := 12) (lv' := [(5, .int (v5 + (1 : Int32))), (0, .ref v0), (1, .ref v1), (2, .int v2), (3, .ref v3), (4, .int v4)]) (st' := []) rfl ?_
          exact xZ.sub (xsc (.tail _ (.head _)) (xsc (.tail _ (.tail _ (.head _))) (xsc (.tail _ (.tail _ (.tail _ (.head _)))) (xsc (.tail _ (.tail _ (.tail _ (.tail _ (.head _))))) (xsc (.tail _ (.tail _ (.tail _ (.tail _ (.tail _ (.head _)))))) (xsc (.head _) xsn)))))) (show ([5, 0, 1, 2, 3, 4] : List Nat).Nodup from by decide) (ih v0 v1 v2 v3 v4 (v5 + (1 : Int32)) M4)
      · skip
        refine xZ.adv (me := xm218) hP_218 2 (pc' := 12) (lv' := [(5, .int (v5 + (1 : Int32))), (0, .ref v0), (1, .ref v1), (2, .int v2), (3, .ref v3), (4, .int v4)]) (st' := []) rfl ?_
        exact xZ.sub (xsc (.tail _ (.head _)) (xsc (.tail _ (.tail _ (.head _))) (xsc (.tail _ (.tail _ (.tail _ (.head _)))) (xsc (.tail _ (.tail _ (.tail _ (.tail _ (.head _))))) (xsc (.tail _ (.tail _ (.tail _ (.tail _ (.tail _ (.head _)))))) (xsc (.head _) xsn)))))) (show ([5, 0, 1, 2, 3, 4] : List Nat).Nodup from by decide) (ih v0 v1 v2 v3 v4 (v5 + (1 : Int32)) M2)
def f_Planner_newExceptions (O : Nat → Option va_E) (f : Nat) (v0 : Nat) (v1 : Nat) (v2 : Int32) (M : xM) : Option (Int32 × xM) :=
  (isO O M v1 4).bind fun _ =>
  xcl (f_Hall_anySeries O f v1 v2 M) fun x1 M1 =>
  f_Planner_newExceptions_12 O f f v0 v1 v2 x1 (0 : Int32) (0 : Int32) M1
set_option maxRecDepth 20000 in
theorem k_f_Planner_newExceptions (O : Nat → Option va_E) (f d : Nat) (v0 : Nat) (v1 : Nat) (v2 : Int32) (M : xM) : xZ oI O (d + 5) 218 0 [(0, .ref v0), (1, .ref v1), (2, .int v2)] [] M (f_Planner_newExceptions O f v0 v1 v2 M) := by
  unfold f_Planner_newExceptions
  refine xZ.adv (me := xm218) hP_218 2 (pc' := 2) (lv' := [(0, .ref v0), (1, .ref v1), (2, .int v2)]) (st' := [.int v2, .ref v1]) rfl ?_
  refine xZ.callv (κ := oR) (av := [.int v2]) (rest := []) (st' := fun x1 => [.ref x1]) (k0 := v1) (me := xm218) hP_218 rfl (Or.inl rfl) ⟨rfl, by decide⟩ rfl rfl (Nat.le_of_ble_eq_true rfl) (by decide) hP_29 (Nat.le_of_ble_eq_true rfl) (fun _ => rfl) (k_f_Hall_anySeries O f (d + 4) v1 v2 M) (fun x1 M1 => ?_)
  refine xZ.adv (me := xm218) hP_218 5 (pc' := 12) (lv' := [(5, .int (0 : Int32)), (4, .int (0 : Int32)), (3, .ref x1), (0, .ref v0), (1, .ref v1), (2, .int v2)]) (st' := []) rfl ?_
  exact xZ.sub (xsc (.tail _ (.tail _ (.tail _ (.head _)))) (xsc (.tail _ (.tail _ (.tail _ (.tail _ (.head _))))) (xsc (.tail _ (.tail _ (.tail _ (.tail _ (.tail _ (.head _)))))) (xsc (.tail _ (.tail _ (.head _))) (xsc (.tail _ (.head _)) (xsc (.head _) xsn)))))) (show ([5, 4, 3, 0, 1, 2] : List Nat).Nodup from by decide) (k_f_Planner_newExceptions_12 O f d f v0 v1 v2 x1 (0 : Int32) (0 : Int32) M1)
def f_Planner_canApply_2 (O : Nat → Option va_E) (f : Nat) : Nat → Nat → Nat → Int32 → xM → Option (Int32 × xM)
  | 0, _, _, _, _ => none
  | n + 1, v0, v1, v2, M =>
    (isO O M v0 7).bind fun _ =>
    xcl (f_Planner_count O f v0 M) fun x1 M1 =>
    if x1 ≤ v2 then (
      some ((1 : Int32), M1)
    ) else
    (isO O M1 v0 7).bind fun _ =>
    xcl (f_Planner_numberAt O f v0 v2 M1) fun x2 M2 =>
    (isO O M2 v1 4).bind fun _ =>
    xcl (f_Hall_anySeries O f v1 x2 M2) fun x3 M3 =>
    (gI O M3 x3 10 0).bind fun x4 =>
    if x4 = 0 then (
      some ((0 : Int32), M3)
    ) else
    (gR O M3 x3 10 6).bind fun x5 =>
    (isO O M3 v0 7).bind fun _ =>
    xcl (f_Planner_dayByPlace O f v0 v2 M3) fun x6 M4 =>
    (isO O M4 x5 9).bind fun _ =>
    xcl (f_Rule_isDay O f x5 x6 M4) fun x7 M5 =>
    if x7 = 0 then (
      some ((0 : Int32), M5)
    ) else
    (isO O M5 v1 4).bind fun _ =>
    xcl (f_Hall_zoneOf O f v1 x3 M5) fun x8 M6 =>
    (isO O M6 v0 7).bind fun _ =>
    xcl (f_Planner_dayByPlace O f v0 v2 M6) fun x9 M7 =>
    (isO O M7 x3 10).bind fun _ =>
    xcl (f_Series_beginOf O f x3 x8 x9 M7) fun x10 M8 =>
    if x10 = (-1 : Int32) then (
      some ((0 : Int32), M8)
    ) else
    (gI O M8 x3 10 7).bind fun x11 =>
    (isO O M8 v0 7).bind fun _ =>
    xcl (f_Planner_numberAt O f v0 v2 M8) fun x12 M9 =>
    (isO O M9 v0 7).bind fun _ =>
    xcl (f_Planner_newExceptions O f v0 v1 x12 M9) fun x13 M10 =>
    if (x11 + x13) ≤ (10 : Int32) then (
      f_Planner_canApply_2 O f n v0 v1 (v2 + (1 : Int32)) M10
    ) else
    some ((0 : Int32), M10)
set_option maxRecDepth 20000 in
theorem k_f_Planner_canApply_2 (O : Nat → Option va_E) (f d : Nat) : ∀ (n : Nat) (v0 : Nat) (v1 : Nat) (v2 : Int32) (M : xM), xZ oI O (d + 6) 217 2 [(0, .ref v0), (1, .ref v1), (2, .int v2)] [] M (f_Planner_canApply_2 O f n v0 v1 v2 M) := by
  intro n
  induction n with
  | zero =>
    intro v0 v1 v2 M
    exact xZ.no
  | succ n ih =>
    intro v0 v1 v2 M
    unfold f_Planner_canApply_2
    refine xZ.adv (me := xm217) hP_217 2 (pc' := 4) (lv' := [(0, .ref v0), (1, .ref v1), (2, .int v2)]) (st' := [.ref v0, .int v2]) rfl ?_
    refine xZ.callv (κ := oI) (av := []) (rest := [.int v2]) (st' := fun x1 => [.int x1, .int v2]) (k0 := v0) (me := xm217) hP_217 rfl (Or.inl rfl) ⟨rfl, by decide⟩ rfl rfl (Nat.le_of_ble_eq_true rfl) (by decide) hP_208 (Nat.le_of_ble_eq_true rfl) (fun _ => rfl) (k_f_Planner_count O f (d + 4) v0 M) (fun x1 M1 => ?_)
    refine xZ.ic_ge (me := xm217) hP_217 rfl (fun h1 => ?_) (fun h1 => ?_)
    · skip
      refine xZ.adv (me := xm217) hP_217 1 (pc' := 93) (lv' := [(0, .ref v0), (1, .ref v1), (2, .int v2)]) (st' := [.int (1 : Int32)]) rfl ?_
      exact xZ.rete (me := xm217) hP_217 rfl rfl rfl
    · skip
      refine xZ.adv (me := xm217) hP_217 3 (pc' := 13) (lv' := [(0, .ref v0), (1, .ref v1), (2, .int v2)]) (st' := [.int v2, .ref v0, .ref v1]) rfl ?_
      refine xZ.callv (κ := oI) (av := [.int v2]) (rest := [.ref v1]) (st' := fun x2 => [.int x2, .ref v1]) (k0 := v0) (me := xm217) hP_217 rfl (Or.inl rfl) ⟨rfl, by decide⟩ rfl rfl (Nat.le_of_ble_eq_true rfl) (by decide) hP_213 (Nat.le_of_ble_eq_true rfl) (fun _ => rfl) (k_f_Planner_numberAt O f (d + 4) v0 v2 M1) (fun x2 M2 => ?_)
      refine xZ.callv (κ := oR) (av := [.int x2]) (rest := []) (st' := fun x3 => [.ref x3]) (k0 := v1) (me := xm217) hP_217 rfl (Or.inl rfl) ⟨rfl, by decide⟩ rfl rfl (Nat.le_of_ble_eq_true rfl) (by decide) hP_29 (Nat.le_of_ble_eq_true rfl) (fun _ => rfl) (k_f_Hall_anySeries O f (d + 5) v1 x2 M2) (fun x3 M3 => ?_)
      refine xZ.adv (me := xm217) hP_217 2 (pc' := 21) (lv' := [(3, .ref x3), (0, .ref v0), (1, .ref v1), (2, .int v2)]) (st' := [.ref x3]) rfl ?_
      refine xZ.k_gI (me := xm217) hP_217 rfl (fun x4 => ?_)
      refine xZ.if_eq (me := xm217) hP_217 rfl (fun h2 => ?_) (fun h2 => ?_)
      · skip
        refine xZ.adv (me := xm217) hP_217 1 (pc' := 43) (lv' := [(3, .ref x3), (0, .ref v0), (1, .ref v1), (2, .int v2)]) (st' := [.int (0 : Int32)]) rfl ?_
        exact xZ.rete (me := xm217) hP_217 rfl rfl rfl
      · skip
        refine xZ.adv (me := xm217) hP_217 1 (pc' := 28) (lv' := [(3, .ref x3), (0, .ref v0), (1, .ref v1), (2, .int v2)]) (st' := [.ref x3]) rfl ?_
        refine xZ.k_gR (me := xm217) hP_217 rfl (fun x5 => ?_)
        refine xZ.adv (me := xm217) hP_217 2 (pc' := 33) (lv' := [(3, .ref x3), (0, .ref v0), (1, .ref v1), (2, .int v2)]) (st' := [.int v2, .ref v0, .ref x5]) rfl ?_
        refine xZ.callv (κ := oI) (av := [.int v2]) (rest := [.ref x5]) (st' := fun x6 => [.int x6, .ref x5]) (k0 := v0) (me := xm217) hP_217 rfl (Or.inl rfl) ⟨rfl, by decide⟩ rfl rfl (Nat.le_of_ble_eq_true rfl) (by decide) hP_214 (Nat.le_of_ble_eq_true rfl) (fun _ => rfl) (k_f_Planner_dayByPlace O f (d + 4) v0 v2 M3) (fun x6 M4 => ?_)
        refine xZ.callv (κ := oI) (av := [.int x6]) (rest := []) (st' := fun x7 => [.int x7]) (k0 := x5) (me := xm217) hP_217 rfl (Or.inl rfl) ⟨rfl, by decide⟩ rfl rfl (Nat.le_of_ble_eq_true rfl) (by decide) hP_99 (Nat.le_of_ble_eq_true rfl) (fun _ => rfl) (k_f_Rule_isDay O f (d + 2) x5 x6 M4) (fun x7 M5 => ?_)
        refine xZ.if_ne (me := xm217) hP_217 rfl (fun h3 => ?_) (fun h3 => ?_)
        · skip
          refine xZ.adv (me := xm217) hP_217 1 (pc' := 43) (lv' := [(3, .ref x3), (0, .ref v0), (1, .ref v1), (2, .int v2)]) (st' := [.int (0 : Int32)]) rfl ?_
          exact xZ.rete (me := xm217) hP_217 rfl rfl rfl
        · skip
          refine xZ.adv (me := xm217) hP_217 3 (pc' := 47) (lv' := [(3, .ref x3), (0, .ref v0), (1, .ref v1), (2, .int v2)]) (st' := [.ref x3, .ref v1, .ref x3]) rfl ?_
          refine xZ.callv (κ := oR) (av := [.ref x3]) (rest := [.ref x3]) (st' := fun x8 => [.ref x8, .ref x3]) (k0 := v1) (me := xm217) hP_217 rfl (Or.inl rfl) ⟨rfl, by decide⟩ rfl rfl (Nat.le_of_ble_eq_true rfl) (by decide) hP_102 (Nat.le_of_ble_eq_true rfl) (fun _ => rfl) (k_f_Hall_zoneOf O f (d + 4) v1 x3 M5) (fun x8 M6 => ?_)
          refine xZ.adv (me := xm217) hP_217 2 (pc' := 52) (lv' := [(3, .ref x3), (0, .ref v0), (1, .ref v1), (2, .int v2)]) (st' := [.int v2, .ref v0, .ref x8, .ref x3]) rfl ?_
          refine xZ.callv (κ := oI) (av := [.int v2]) (rest := [.ref x8, .ref x3]) (st' := fun x9 => [.int x9, .ref x8, .ref x3]) (k0 := v0) (me := xm217) hP_217 rfl (Or.inl rfl) ⟨rfl, by decide⟩ rfl rfl (Nat.le_of_ble_eq_true rfl) (by decide) hP_214 (Nat.le_of_ble_eq_true rfl) (fun _ => rfl) (k_f_Planner_dayByPlace O f (d + 4) v0 v2 M6) (fun x9 M7 => ?_)
          refine xZ.callv (κ := oI) (av := [.ref x8, .int x9]) (rest := []) (st' := fun x10 => [.int x10]) (k0 := x3) (me := xm217) hP_217 rfl (Or.inl rfl) ⟨rfl, by decide⟩ rfl rfl (Nat.le_of_ble_eq_true rfl) (by decide) hP_103 (Nat.le_of_ble_eq_true rfl) (fun _ => rfl) (k_f_Series_beginOf O f (d + 1) x3 x8 x9 M7) (fun x10 M8 => ?_)
          refine xZ.adv (me := xm217) hP_217 1 (pc' := 59) (lv' := [(3, .ref x3), (0, .ref v0), (1, .ref v1), (2, .int v2)]) (st' := [.int (-1 : Int32), .int x10]) rfl ?_
          refine xZ.ic_ne (me := xm217) hP_217 rfl (fun h4 => ?_) (fun h4 => ?_)
          · skip
            refine xZ.adv (me := xm217) hP_217 1 (pc' := 63) (lv' := [(3, .ref x3), (0, .ref v0), (1, .ref v1), (2, .int v2)]) (st' := [.int (0 : Int32)]) rfl ?_
            exact xZ.rete (me := xm217) hP_217 rfl rfl rfl
          · skip
            refine xZ.adv (me := xm217) hP_217 1 (pc' := 65) (lv' := [(3, .ref x3), (0, .ref v0), (1, .ref v1), (2, .int v2)]) (st' := [.ref x3]) rfl ?_
            refine xZ.k_gI (me := xm217) hP_217 rfl (fun x11 => ?_)
            refine xZ.adv (me := xm217) hP_217 4 (pc' := 72) (lv' := [(3, .ref x3), (0, .ref v0), (1, .ref v1), (2, .int v2)]) (st' := [.int v2, .ref v0, .ref v1, .ref v0, .int x11]) rfl ?_
            refine xZ.callv (κ := oI) (av := [.int v2]) (rest := [.ref v1, .ref v0, .int x11]) (st' := fun x12 => [.int x12, .ref v1, .ref v0, .int x11]) (k0 := v0) (me := xm217) hP_217 rfl (Or.inl rfl) ⟨rfl, by decide⟩ rfl rfl (Nat.le_of_ble_eq_true rfl) (by decide) hP_213 (Nat.le_of_ble_eq_true rfl) (fun _ => rfl) (k_f_Planner_numberAt O f (d + 4) v0 v2 M8) (fun x12 M9 => ?_)
            refine xZ.callv (κ := oI) (av := [.ref v1, .int x12]) (rest := [.int x11]) (st' := fun x13 => [.int x13, .int x11]) (k0 := v0) (me := xm217) hP_217 rfl (Or.inl rfl) ⟨rfl, by decide⟩ rfl rfl (Nat.le_of_ble_eq_true rfl) (by decide) hP_218 (Nat.le_of_ble_eq_true rfl) (fun _ => rfl) (k_f_Planner_newExceptions O f (d + 0) v0 v1 x12 M9) (fun x13 M10 => ?_)
            refine xZ.adv (me := xm217) hP_217 2 (pc' := 81) (lv' := [(3, .ref x3), (0, .ref v0), (1, .ref v1), (2, .int v2)]) (st' := [.int (10 : Int32), .int (x11 + x13)]) rfl ?_
            refine xZ.ic_le (me := xm217) hP_217 rfl (fun h5 => ?_) (fun h5 => ?_)
            · skip
              refine xZ.adv (me := xm217) hP_217 2 (pc' := 2) (lv' := [(2, .int (v2 + (1 : Int32))), (3, .ref x3), (0, .ref v0), (1, .ref v1)]) (st' := []) rfl ?_
              exact xZ.sub (xsc (.tail _ (.tail _ (.head _))) (xsc (.tail _ (.tail _ (.tail _ (.head _)))) (xsc (.head _) xsn))) (show ([2, 3, 0, 1] : List Nat).Nodup from by decide) (ih v0 v1 (v2 + (1 : Int32)) M10)
            · skip
              refine xZ.adv (me := xm217) hP_217 1 (pc' := 85) (lv' := [(3, .ref x3), (0, .ref v0), (1, .ref v1), (2, .int v2)]) (st' := [.int (0 : Int32)]) rfl ?_
              exact xZ.rete (me := xm217) hP_217 rfl rfl rfl
def f_Planner_canApply (O : Nat → Option va_E) (f : Nat) (v0 : Nat) (v1 : Nat) (M : xM) : Option (Int32 × xM) :=
  f_Planner_canApply_2 O f f v0 v1 (0 : Int32) M
set_option maxRecDepth 20000 in
theorem k_f_Planner_canApply (O : Nat → Option va_E) (f d : Nat) (v0 : Nat) (v1 : Nat) (M : xM) : xZ oI O (d + 6) 217 0 [(0, .ref v0), (1, .ref v1)] [] M (f_Planner_canApply O f v0 v1 M) := by
  unfold f_Planner_canApply
  refine xZ.adv (me := xm217) hP_217 2 (pc' := 2) (lv' := [(2, .int (0 : Int32)), (0, .ref v0), (1, .ref v1)]) (st' := []) rfl ?_
  exact xZ.sub (xsc (.tail _ (.head _)) (xsc (.tail _ (.tail _ (.head _))) (xsc (.head _) xsn))) (show ([2, 0, 1] : List Nat).Nodup from by decide) (k_f_Planner_canApply_2 O f d f v0 v1 (0 : Int32) M)
def f_Planner_applyTo (O : Nat → Option va_E) (f : Nat) (v0 : Nat) (v1 : Nat) (v2 : Int32) (M : xM) : Option (Int32 × xM) :=
  (isO O M v0 7).bind fun _ =>
  xcl (f_Planner_numberAt O f v0 v2 M) fun x1 M1 =>
  (isO O M1 v1 4).bind fun _ =>
  xcl (f_Hall_anySeries O f v1 x1 M1) fun x2 M2 =>
  (isO O M2 v1 4).bind fun _ =>
  xcl (f_Hall_zoneOf O f v1 x2 M2) fun x3 M3 =>
  (isO O M3 v0 7).bind fun _ =>
  xcl (f_Planner_dayByPlace O f v0 v2 M3) fun x4 M4 =>
  (isO O M4 x2 10).bind fun _ =>
  xcl (f_Series_beginOf O f x2 x3 x4 M4) fun x5 M5 =>
  (isO O M5 v0 7).bind fun _ =>
  xcl (f_Planner_beginAt O f v0 v2 M5) fun x6 M6 =>
  if x5 = x6 then (
    some ((0 : Int32), M6)
  ) else
  (isO O M6 v0 7).bind fun _ =>
  xcl (f_Planner_beginAt O f v0 v2 M6) fun x7 M7 =>
  (isO O M7 x3 11).bind fun _ =>
  xcl (f_Zone_localOf O f x3 x7 M7) fun x8 M8 =>
  (isO O M8 x2 10).bind fun _ =>
  xcl (f_Series_except O f x2 x4 x8 M8) fun _ M9 =>
  some ((1 : Int32), M9)
set_option maxRecDepth 20000 in
theorem k_f_Planner_applyTo (O : Nat → Option va_E) (f d : Nat) (v0 : Nat) (v1 : Nat) (v2 : Int32) (M : xM) : xZ oI O (d + 5) 219 0 [(0, .ref v0), (1, .ref v1), (2, .int v2)] [] M (f_Planner_applyTo O f v0 v1 v2 M) := by
  unfold f_Planner_applyTo
  refine xZ.adv (me := xm219) hP_219 3 (pc' := 3) (lv' := [(0, .ref v0), (1, .ref v1), (2, .int v2)]) (st' := [.int v2, .ref v0, .ref v1]) rfl ?_
  refine xZ.callv (κ := oI) (av := [.int v2]) (rest := [.ref v1]) (st' := fun x1 => [.int x1, .ref v1]) (k0 := v0) (me := xm219) hP_219 rfl (Or.inl rfl) ⟨rfl, by decide⟩ rfl rfl (Nat.le_of_ble_eq_true rfl) (by decide) hP_213 (Nat.le_of_ble_eq_true rfl) (fun _ => rfl) (k_f_Planner_numberAt O f (d + 3) v0 v2 M) (fun x1 M1 => ?_)
  refine xZ.callv (κ := oR) (av := [.int x1]) (rest := []) (st' := fun x2 => [.ref x2]) (k0 := v1) (me := xm219) hP_219 rfl (Or.inl rfl) ⟨rfl, by decide⟩ rfl rfl (Nat.le_of_ble_eq_true rfl) (by decide) hP_29 (Nat.le_of_ble_eq_true rfl) (fun _ => rfl) (k_f_Hall_anySeries O f (d + 4) v1 x1 M1) (fun x2 M2 => ?_)
  refine xZ.adv (me := xm219) hP_219 3 (pc' := 12) (lv' := [(3, .ref x2), (0, .ref v0), (1, .ref v1), (2, .int v2)]) (st' := [.ref x2, .ref v1]) rfl ?_
  refine xZ.callv (κ := oR) (av := [.ref x2]) (rest := []) (st' := fun x3 => [.ref x3]) (k0 := v1) (me := xm219) hP_219 rfl (Or.inl rfl) ⟨rfl, by decide⟩ rfl rfl (Nat.le_of_ble_eq_true rfl) (by decide) hP_102 (Nat.le_of_ble_eq_true rfl) (fun _ => rfl) (k_f_Hall_zoneOf O f (d + 3) v1 x2 M2) (fun x3 M3 => ?_)
  refine xZ.adv (me := xm219) hP_219 3 (pc' := 19) (lv' := [(4, .ref x3), (3, .ref x2), (0, .ref v0), (1, .ref v1), (2, .int v2)]) (st' := [.int v2, .ref v0]) rfl ?_
  refine xZ.callv (κ := oI) (av := [.int v2]) (rest := []) (st' := fun x4 => [.int x4]) (k0 := v0) (me := xm219) hP_219 rfl (Or.inl rfl) ⟨rfl, by decide⟩ rfl rfl (Nat.le_of_ble_eq_true rfl) (by decide) hP_214 (Nat.le_of_ble_eq_true rfl) (fun _ => rfl) (k_f_Planner_dayByPlace O f (d + 3) v0 v2 M3) (fun x4 M4 => ?_)
  refine xZ.adv (me := xm219) hP_219 4 (pc' := 29) (lv' := [(5, .int x4), (4, .ref x3), (3, .ref x2), (0, .ref v0), (1, .ref v1), (2, .int v2)]) (st' := [.int x4, .ref x3, .ref x2]) rfl ?_
  refine xZ.callv (κ := oI) (av := [.ref x3, .int x4]) (rest := []) (st' := fun x5 => [.int x5]) (k0 := x2) (me := xm219) hP_219 rfl (Or.inl rfl) ⟨rfl, by decide⟩ rfl rfl (Nat.le_of_ble_eq_true rfl) (by decide) hP_103 (Nat.le_of_ble_eq_true rfl) (fun _ => rfl) (k_f_Series_beginOf O f (d + 0) x2 x3 x4 M4) (fun x5 M5 => ?_)
  refine xZ.adv (me := xm219) hP_219 2 (pc' := 34) (lv' := [(5, .int x4), (4, .ref x3), (3, .ref x2), (0, .ref v0), (1, .ref v1), (2, .int v2)]) (st' := [.int v2, .ref v0, .int x5]) rfl ?_
  refine xZ.callv (κ := oI) (av := [.int v2]) (rest := [.int x5]) (st' := fun x6 => [.int x6, .int x5]) (k0 := v0) (me := xm219) hP_219 rfl (Or.inl rfl) ⟨rfl, by decide⟩ rfl rfl (Nat.le_of_ble_eq_true rfl) (by decide) hP_215 (Nat.le_of_ble_eq_true rfl) (fun _ => rfl) (k_f_Planner_beginAt O f (d + 4) v0 v2 M5) (fun x6 M6 => ?_)
  refine xZ.ic_ne (me := xm219) hP_219 rfl (fun h1 => ?_) (fun h1 => ?_)
  · skip
    refine xZ.adv (me := xm219) hP_219 1 (pc' := 41) (lv' := [(5, .int x4), (4, .ref x3), (3, .ref x2), (0, .ref v0), (1, .ref v1), (2, .int v2)]) (st' := [.int (0 : Int32)]) rfl ?_
    exact xZ.rete (me := xm219) hP_219 rfl rfl rfl
  · skip
    refine xZ.adv (me := xm219) hP_219 5 (pc' := 49) (lv' := [(5, .int x4), (4, .ref x3), (3, .ref x2), (0, .ref v0), (1, .ref v1), (2, .int v2)]) (st' := [.int v2, .ref v0, .ref x3, .int x4, .ref x2]) rfl ?_
    refine xZ.callv (κ := oI) (av := [.int v2]) (rest := [.ref x3, .int x4, .ref x2]) (st' := fun x7 => [.int x7, .ref x3, .int x4, .ref x2]) (k0 := v0) (me := xm219) hP_219 rfl (Or.inl rfl) ⟨rfl, by decide⟩ rfl rfl (Nat.le_of_ble_eq_true rfl) (by decide) hP_215 (Nat.le_of_ble_eq_true rfl) (fun _ => rfl) (k_f_Planner_beginAt O f (d + 4) v0 v2 M6) (fun x7 M7 => ?_)
    refine xZ.callv (κ := oI) (av := [.int x7]) (rest := [.int x4, .ref x2]) (st' := fun x8 => [.int x8, .int x4, .ref x2]) (k0 := x3) (me := xm219) hP_219 rfl (Or.inl rfl) ⟨rfl, by decide⟩ rfl rfl (Nat.le_of_ble_eq_true rfl) (by decide) hP_135 (Nat.le_of_ble_eq_true rfl) (fun _ => rfl) (k_f_Zone_localOf O f (d + 1) x3 x7 M7) (fun x8 M8 => ?_)
    refine xZ.callv (κ := oU) (av := [.int x4, .int x8]) (rest := []) (st' := fun _ => []) (k0 := x2) (me := xm219) hP_219 rfl (Or.inl rfl) ⟨rfl, by decide⟩ rfl rfl (Nat.le_of_ble_eq_true rfl) (by decide) hP_111 (Nat.le_of_ble_eq_true rfl) (fun _ => rfl) (k_f_Series_except O f (d + 3) x2 x4 x8 M8) (fun _ M9 => ?_)
    refine xZ.adv (me := xm219) hP_219 1 (pc' := 59) (lv' := [(5, .int x4), (4, .ref x3), (3, .ref x2), (0, .ref v0), (1, .ref v1), (2, .int v2)]) (st' := [.int (1 : Int32)]) rfl ?_
    exact xZ.rete (me := xm219) hP_219 rfl rfl rfl
def f_Calendarhall_applyPlan_40 (O : Nat → Option va_E) (f : Nat) : Nat → Nat → Int32 → Int32 → xM → Option (Int32 × xM)
  | 0, _, _, _, _ => none
  | n + 1, v0, v1, v2, M =>
    (gR O M v0 12 6).bind fun x1 =>
    (isO O M x1 7).bind fun _ =>
    xcl (f_Planner_count O f x1 M) fun x2 M1 =>
    if x2 ≤ v2 then (
      (gR O M1 v0 12 6).bind fun x3 =>
      (pI M1 x3 7 0 (0 : Int32)).bind fun M2 =>
      some (v1, M2)
    ) else
    (gR O M1 v0 12 6).bind fun x4 =>
    (gR O M1 v0 12 0).bind fun x5 =>
    (isO O M1 x4 7).bind fun _ =>
    xcl (f_Planner_applyTo O f x4 x5 v2 M1) fun x6 M3 =>
    if x6 = 0 then (
      f_Calendarhall_applyPlan_40 O f n v0 v1 (v2 + (1 : Int32)) M3
    ) else
    f_Calendarhall_applyPlan_40 O f n v0 (v1 + (1 : Int32)) (v2 + (1 : Int32)) M3
set_option maxRecDepth 20000 in
theorem k_f_Calendarhall_applyPlan_40 (O : Nat → Option va_E) (f d : Nat) : ∀ (n : Nat) (v0 : Nat) (v1 : Int32) (v2 : Int32) (M : xM), xZ oI O (d + 7) 216 40 [(0, .ref v0), (1, .int v1), (2, .int v2)] [] M (f_Calendarhall_applyPlan_40 O f n v0 v1 v2 M) := by
  intro n
  induction n with
  | zero =>
    intro v0 v1 v2 M
    exact xZ.no
  | succ n ih =>
    intro v0 v1 v2 M
    unfold f_Calendarhall_applyPlan_40
    refine xZ.adv (me := xm216) hP_216 2 (pc' := 42) (lv' := [(0, .ref v0), (1, .int v1), (2, .int v2)]) (st' := [.ref v0, .int v2]) rfl ?_
    refine xZ.k_gR (me := xm216) hP_216 rfl (fun x1 => ?_)
    refine xZ.callv (κ := oI) (av := []) (rest := [.int v2]) (st' := fun x2 => [.int x2, .int v2]) (k0 := x1) (me := xm216) hP_216 rfl (Or.inl rfl) ⟨rfl, by decide⟩ rfl rfl (Nat.le_of_ble_eq_true rfl) (by decide) hP_208 (Nat.le_of_ble_eq_true rfl) (fun _ => rfl) (k_f_Planner_count O f (d + 5) x1 M) (fun x2 M1 => ?_)
    refine xZ.ic_ge (me := xm216) hP_216 rfl (fun h1 => ?_) (fun h1 => ?_)
    · skip
      refine xZ.adv (me := xm216) hP_216 1 (pc' := 76) (lv' := [(0, .ref v0), (1, .int v1), (2, .int v2)]) (st' := [.ref v0]) rfl ?_
      refine xZ.k_gR (me := xm216) hP_216 rfl (fun x3 => ?_)
      refine xZ.adv (me := xm216) hP_216 1 (pc' := 80) (lv' := [(0, .ref v0), (1, .int v1), (2, .int v2)]) (st' := [.int (0 : Int32), .ref x3]) rfl ?_
      refine xZ.k_pI (me := xm216) hP_216 rfl (fun M2 => ?_)
      refine xZ.adv (me := xm216) hP_216 1 (pc' := 84) (lv' := [(0, .ref v0), (1, .int v1), (2, .int v2)]) (st' := [.int v1]) rfl ?_
      exact xZ.reti (me := xm216) hP_216 rfl rfl
    · skip
      refine xZ.adv (me := xm216) hP_216 1 (pc' := 52) (lv' := [(0, .ref v0), (1, .int v1), (2, .int v2)]) (st' := [.ref v0]) rfl ?_
      refine xZ.k_gR (me := xm216) hP_216 rfl (fun x4 => ?_)
      refine xZ.adv (me := xm216) hP_216 1 (pc' := 56) (lv' := [(0, .ref v0), (1, .int v1), (2, .int v2)]) (st' := [.ref v0, .ref x4]) rfl ?_
      refine xZ.k_gR (me := xm216) hP_216 rfl (fun x5 => ?_)
      refine xZ.adv (me := xm216) hP_216 1 (pc' := 60) (lv' := [(0, .ref v0), (1, .int v1), (2, .int v2)]) (st' := [.int v2, .ref x5, .ref x4]) rfl ?_
      refine xZ.callv (κ := oI) (av := [.ref x5, .int v2]) (rest := []) (st' := fun x6 => [.int x6]) (k0 := x4) (me := xm216) hP_216 rfl (Or.inl rfl) ⟨rfl, by decide⟩ rfl rfl (Nat.le_of_ble_eq_true rfl) (by decide) hP_219 (Nat.le_of_ble_eq_true rfl) (fun _ => rfl) (k_f_Planner_applyTo O f (d + 1) x4 x5 v2 M1) (fun x6 M3 => ?_)
      refine xZ.if_eq (me := xm216) hP_216 rfl (fun h2 => ?_) (fun h2 => ?_)
      · skip
        refine xZ.adv (me := xm216) hP_216 2 (pc' := 40) (lv' := [(2, .int (v2 + (1 : Int32))), (0, .ref v0), (1, .int v1)]) (st' := []) rfl ?_
        exact xZ.sub (xsc (.tail _ (.head _)) (xsc (.tail _ (.tail _ (.head _))) (xsc (.head _) xsn))) (show ([2, 0, 1] : List Nat).Nodup from by decide) (ih v0 v1 (v2 + (1 : Int32)) M3)
      · skip
        refine xZ.adv (me := xm216) hP_216 3 (pc' := 40) (lv' := [(2, .int (v2 + (1 : Int32))), (1, .int (v1 + (1 : Int32))), (0, .ref v0)]) (st' := []) rfl ?_
        exact xZ.sub (xsc (.tail _ (.tail _ (.head _))) (xsc (.tail _ (.head _)) (xsc (.head _) xsn))) (show ([2, 1, 0] : List Nat).Nodup from by decide) (ih v0 (v1 + (1 : Int32)) (v2 + (1 : Int32)) M3)
def f_Calendarhall_applyPlan (O : Nat → Option va_E) (f : Nat) (v0 : Nat) (M : xM) : Option (Int32 × xM) :=
  (gR O M v0 12 6).bind fun x1 =>
  (gI O M x1 7 0).bind fun x2 =>
  if x2 = 0 then (
    none
  ) else
  (gR O M v0 12 6).bind fun x3 =>
  (gR O M v0 12 0).bind fun x4 =>
  (isO O M x3 7).bind fun _ =>
  xcl (f_Planner_canApply O f x3 x4 M) fun x5 M1 =>
  if x5 = 0 then (
    none
  ) else
  (isO O M1 v0 12).bind fun _ =>
  xcl (f_Calendarhall_saveForUndo O f v0 M1) fun _ M2 =>
  f_Calendarhall_applyPlan_40 O f f v0 (0 : Int32) (0 : Int32) M2
set_option maxRecDepth 20000 in
theorem k_f_Calendarhall_applyPlan (O : Nat → Option va_E) (f d : Nat) (v0 : Nat) (M : xM) : xZ oI O (d + 7) 216 0 [(0, .ref v0)] [] M (f_Calendarhall_applyPlan O f v0 M) := by
  unfold f_Calendarhall_applyPlan
  refine xZ.adv (me := xm216) hP_216 1 (pc' := 1) (lv' := [(0, .ref v0)]) (st' := [.ref v0]) rfl ?_
  refine xZ.k_gR (me := xm216) hP_216 rfl (fun x1 => ?_)
  refine xZ.k_gI (me := xm216) hP_216 rfl (fun x2 => ?_)
  refine xZ.if_eq (me := xm216) hP_216 rfl (fun h1 => ?_) (fun h1 => ?_)
  · skip
    exact xZ.no
  · skip
    refine xZ.adv (me := xm216) hP_216 1 (pc' := 11) (lv' := [(0, .ref v0)]) (st' := [.ref v0]) rfl ?_
    refine xZ.k_gR (me := xm216) hP_216 rfl (fun x3 => ?_)
    refine xZ.adv (me := xm216) hP_216 1 (pc' := 15) (lv' := [(0, .ref v0)]) (st' := [.ref v0, .ref x3]) rfl ?_
    refine xZ.k_gR (me := xm216) hP_216 rfl (fun x4 => ?_)
    refine xZ.callv (κ := oI) (av := [.ref x4]) (rest := []) (st' := fun x5 => [.int x5]) (k0 := x3) (me := xm216) hP_216 rfl (Or.inl rfl) ⟨rfl, by decide⟩ rfl rfl (Nat.le_of_ble_eq_true rfl) (by decide) hP_217 (Nat.le_of_ble_eq_true rfl) (fun _ => rfl) (k_f_Planner_canApply O f (d + 0) x3 x4 M) (fun x5 M1 => ?_)
    refine xZ.if_ne (me := xm216) hP_216 rfl (fun h2 => ?_) (fun h2 => ?_)
    · skip
      exact xZ.no
    · skip
      refine xZ.adv (me := xm216) hP_216 1 (pc' := 33) (lv' := [(0, .ref v0)]) (st' := [.ref v0]) rfl ?_
      refine xZ.callv (κ := oU) (av := []) (rest := []) (st' := fun _ => []) (k0 := v0) (me := xm216) hP_216 rfl (Or.inl rfl) ⟨rfl, by decide⟩ rfl rfl (Nat.le_of_ble_eq_true rfl) (by decide) hP_23 (Nat.le_of_ble_eq_true rfl) (fun _ => rfl) (k_f_Calendarhall_saveForUndo O f (d + 2) v0 M1) (fun _ M2 => ?_)
      refine xZ.adv (me := xm216) hP_216 4 (pc' := 40) (lv' := [(2, .int (0 : Int32)), (1, .int (0 : Int32)), (0, .ref v0)]) (st' := []) rfl ?_
      exact xZ.sub (xsc (.tail _ (.tail _ (.head _))) (xsc (.tail _ (.head _)) (xsc (.head _) xsn))) (show ([2, 1, 0] : List Nat).Nodup from by decide) (k_f_Calendarhall_applyPlan_40 O f d f v0 (0 : Int32) (0 : Int32) M2)
def f_Integer_numberOfTrailingZeros_74 (O : Nat → Option va_E) (f : Nat) (v0 : Int32) (v1 : Int32) (M : xM) : Option (Int32 × xM) :=
  some ((v1 + (Int32.toUInt32 v0 >>> (Int32.toUInt32 (1 : Int32) &&& Int32.toUInt32 31)).toInt32), M)
set_option maxRecDepth 20000 in
theorem k_f_Integer_numberOfTrailingZeros_74 (O : Nat → Option va_E) (f d : Nat) (v0 : Int32) (v1 : Int32) (M : xM) : xZ oI O (d + 0) 253 74 [(0, .int v0), (1, .int v1)] [] M (f_Integer_numberOfTrailingZeros_74 O f v0 v1 M) := by
  unfold f_Integer_numberOfTrailingZeros_74
  refine xZ.adv (me := xm253) hP_253 5 (pc' := 79) (lv' := [(0, .int v0), (1, .int v1)]) (st' := [.int (v1 + (Int32.toUInt32 v0 >>> (Int32.toUInt32 (1 : Int32) &&& Int32.toUInt32 31)).toInt32)]) rfl ?_
  exact xZ.reti (me := xm253) hP_253 rfl rfl
def f_Integer_numberOfTrailingZeros_62 (O : Nat → Option va_E) (f : Nat) (v0 : Int32) (v1 : Int32) (M : xM) : Option (Int32 × xM) :=
  if v0 ≤ (4 : Int32) then (
    f_Integer_numberOfTrailingZeros_74 O f v0 v1 M
  ) else
  xlet ((Int32.toUInt32 v0 >>> (Int32.toUInt32 (2 : Int32) &&& Int32.toUInt32 31)).toInt32) fun x1 =>
  f_Integer_numberOfTrailingZeros_74 O f x1 (v1 + (2 : Int32)) M
set_option maxRecDepth 20000 in
theorem k_f_Integer_numberOfTrailingZeros_62 (O : Nat → Option va_E) (f d : Nat) (v0 : Int32) (v1 : Int32) (M : xM) : xZ oI O (d + 0) 253 62 [(0, .int v0), (1, .int v1)] [] M (f_Integer_numberOfTrailingZeros_62 O f v0 v1 M) := by
  unfold f_Integer_numberOfTrailingZeros_62
  refine xZ.adv (me := xm253) hP_253 2 (pc' := 64) (lv' := [(0, .int v0), (1, .int v1)]) (st' := [.int (4 : Int32), .int v0]) rfl ?_
  refine xZ.ic_le (me := xm253) hP_253 rfl (fun h1 => ?_) (fun h1 => ?_)
  · skip
    exact (k_f_Integer_numberOfTrailingZeros_74 O f d v0 v1 M)
  · skip
    refine xZ.adv (me := xm253) hP_253 5 (pc' := 74) (lv' := [(0, .int ((Int32.toUInt32 v0 >>> (Int32.toUInt32 (2 : Int32) &&& Int32.toUInt32 31)).toInt32)), (1, .int (v1 + (2 : Int32)))]) (st' := []) rfl ?_
    refine xZ.letI (v := (Int32.toUInt32 v0 >>> (Int32.toUInt32 (2 : Int32) &&& Int32.toUInt32 31)).toInt32) (lvf := fun x1 => [(0, .int x1), (1, .int (v1 + (2 : Int32)))]) (stf := fun x1 => []) ?_
    intro x1
    exact (k_f_Integer_numberOfTrailingZeros_74 O f d x1 (v1 + (2 : Int32)) M)
def f_Integer_numberOfTrailingZeros_49 (O : Nat → Option va_E) (f : Nat) (v0 : Int32) (v1 : Int32) (M : xM) : Option (Int32 × xM) :=
  if v0 ≤ (16 : Int32) then (
    f_Integer_numberOfTrailingZeros_62 O f v0 v1 M
  ) else
  xlet ((Int32.toUInt32 v0 >>> (Int32.toUInt32 (4 : Int32) &&& Int32.toUInt32 31)).toInt32) fun x1 =>
  f_Integer_numberOfTrailingZeros_62 O f x1 (v1 + (4 : Int32)) M
set_option maxRecDepth 20000 in
theorem k_f_Integer_numberOfTrailingZeros_49 (O : Nat → Option va_E) (f d : Nat) (v0 : Int32) (v1 : Int32) (M : xM) : xZ oI O (d + 0) 253 49 [(0, .int v0), (1, .int v1)] [] M (f_Integer_numberOfTrailingZeros_49 O f v0 v1 M) := by
  unfold f_Integer_numberOfTrailingZeros_49
  refine xZ.adv (me := xm253) hP_253 2 (pc' := 52) (lv' := [(0, .int v0), (1, .int v1)]) (st' := [.int (16 : Int32), .int v0]) rfl ?_
  refine xZ.ic_le (me := xm253) hP_253 rfl (fun h1 => ?_) (fun h1 => ?_)
  · skip
    exact (k_f_Integer_numberOfTrailingZeros_62 O f d v0 v1 M)
  · skip
    refine xZ.adv (me := xm253) hP_253 5 (pc' := 62) (lv' := [(0, .int ((Int32.toUInt32 v0 >>> (Int32.toUInt32 (4 : Int32) &&& Int32.toUInt32 31)).toInt32)), (1, .int (v1 + (4 : Int32)))]) (st' := []) rfl ?_
    refine xZ.letI (v := (Int32.toUInt32 v0 >>> (Int32.toUInt32 (4 : Int32) &&& Int32.toUInt32 31)).toInt32) (lvf := fun x1 => [(0, .int x1), (1, .int (v1 + (4 : Int32)))]) (stf := fun x1 => []) ?_
    intro x1
    exact (k_f_Integer_numberOfTrailingZeros_62 O f d x1 (v1 + (4 : Int32)) M)
def f_Integer_numberOfTrailingZeros_34 (O : Nat → Option va_E) (f : Nat) (v0 : Int32) (v1 : Int32) (M : xM) : Option (Int32 × xM) :=
  if v0 ≤ (256 : Int32) then (
    f_Integer_numberOfTrailingZeros_49 O f v0 v1 M
  ) else
  xlet ((Int32.toUInt32 v0 >>> (Int32.toUInt32 (8 : Int32) &&& Int32.toUInt32 31)).toInt32) fun x1 =>
  f_Integer_numberOfTrailingZeros_49 O f x1 (v1 + (8 : Int32)) M
set_option maxRecDepth 20000 in
theorem k_f_Integer_numberOfTrailingZeros_34 (O : Nat → Option va_E) (f d : Nat) (v0 : Int32) (v1 : Int32) (M : xM) : xZ oI O (d + 0) 253 34 [(0, .int v0), (1, .int v1)] [] M (f_Integer_numberOfTrailingZeros_34 O f v0 v1 M) := by
  unfold f_Integer_numberOfTrailingZeros_34
  refine xZ.adv (me := xm253) hP_253 2 (pc' := 38) (lv' := [(0, .int v0), (1, .int v1)]) (st' := [.int (256 : Int32), .int v0]) rfl ?_
  refine xZ.ic_le (me := xm253) hP_253 rfl (fun h1 => ?_) (fun h1 => ?_)
  · skip
    exact (k_f_Integer_numberOfTrailingZeros_49 O f d v0 v1 M)
  · skip
    refine xZ.adv (me := xm253) hP_253 5 (pc' := 49) (lv' := [(0, .int ((Int32.toUInt32 v0 >>> (Int32.toUInt32 (8 : Int32) &&& Int32.toUInt32 31)).toInt32)), (1, .int (v1 + (8 : Int32)))]) (st' := []) rfl ?_
    refine xZ.letI (v := (Int32.toUInt32 v0 >>> (Int32.toUInt32 (8 : Int32) &&& Int32.toUInt32 31)).toInt32) (lvf := fun x1 => [(0, .int x1), (1, .int (v1 + (8 : Int32)))]) (stf := fun x1 => []) ?_
    intro x1
    exact (k_f_Integer_numberOfTrailingZeros_49 O f d x1 (v1 + (8 : Int32)) M)
def f_Integer_numberOfTrailingZeros (O : Nat → Option va_E) (f : Nat) (v0 : Int32) (M : xM) : Option (Int32 × xM) :=
  xlet ((v0 ^^^ (-1 : Int32)) &&& (v0 - (1 : Int32))) fun x1 =>
  if 0 < x1 then (
    if x1 ≤ (65536 : Int32) then (
      f_Integer_numberOfTrailingZeros_34 O f x1 (1 : Int32) M
    ) else
    xlet ((Int32.toUInt32 x1 >>> (Int32.toUInt32 (16 : Int32) &&& Int32.toUInt32 31)).toInt32) fun x2 =>
    f_Integer_numberOfTrailingZeros_34 O f x2 ((1 : Int32) + (16 : Int32)) M
  ) else
  some ((x1 &&& (32 : Int32)), M)
set_option maxRecDepth 20000 in
theorem k_f_Integer_numberOfTrailingZeros (O : Nat → Option va_E) (f d : Nat) (v0 : Int32) (M : xM) : xZ oI O (d + 0) 253 0 [(0, .int v0)] [] M (f_Integer_numberOfTrailingZeros O f v0 M) := by
  unfold f_Integer_numberOfTrailingZeros
  refine xZ.adv (me := xm253) hP_253 8 (pc' := 8) (lv' := [(0, .int ((v0 ^^^ (-1 : Int32)) &&& (v0 - (1 : Int32))))]) (st' := []) rfl ?_
  refine xZ.letI (v := ((v0 ^^^ (-1 : Int32)) &&& (v0 - (1 : Int32)))) (lvf := fun x1 => [(0, .int x1)]) (stf := fun x1 => []) ?_
  intro x1
  refine xZ.adv (me := xm253) hP_253 1 (pc' := 9) (lv' := [(0, .int x1)]) (st' := [.int x1]) rfl ?_
  refine xZ.if_gt (me := xm253) hP_253 rfl (fun h1 => ?_) (fun h1 => ?_)
  · skip
    refine xZ.adv (me := xm253) hP_253 4 (pc' := 23) (lv' := [(1, .int (1 : Int32)), (0, .int x1)]) (st' := [.int (65536 : Int32), .int x1]) rfl ?_
    refine xZ.ic_le (me := xm253) hP_253 rfl (fun h2 => ?_) (fun h2 => ?_)
    · skip
      exact xZ.sub (xsc (.tail _ (.head _)) (xsc (.head _) xsn)) (show ([1, 0] : List Nat).Nodup from by decide) (k_f_Integer_numberOfTrailingZeros_34 O f d x1 (1 : Int32) M)
    · skip
      refine xZ.adv (me := xm253) hP_253 5 (pc' := 34) (lv' := [(0, .int ((Int32.toUInt32 x1 >>> (Int32.toUInt32 (16 : Int32) &&& Int32.toUInt32 31)).toInt32)), (1, .int ((1 : Int32) + (16 : Int32)))]) (st' := []) rfl ?_
      refine xZ.letI (v := (Int32.toUInt32 x1 >>> (Int32.toUInt32 (16 : Int32) &&& Int32.toUInt32 31)).toInt32) (lvf := fun x2 => [(0, .int x2), (1, .int ((1 : Int32) + (16 : Int32)))]) (stf := fun x2 => []) ?_
      intro x2
      exact (k_f_Integer_numberOfTrailingZeros_34 O f d x2 ((1 : Int32) + (16 : Int32)) M)
  · skip
    refine xZ.adv (me := xm253) hP_253 3 (pc' := 16) (lv' := [(0, .int x1)]) (st' := [.int (x1 &&& (32 : Int32))]) rfl ?_
    exact xZ.reti (me := xm253) hP_253 rfl rfl
def f_Law_isPlanned_496 (O : Nat → Option va_E) (f : Nat) (K451 : Nat → Nat → Int32 → Nat → Int32 → xM → Option (Int32 × xM)) (v0 : Nat) (v6 : Nat) (v11 : Nat) (v12 : Int32) (s0 : Int32) (s1 : Int32) (M : xM) : Option (Int32 × xM) :=
  K451 v0 v6 (s0 + s1) v11 (v12 + (1 : Int32)) M
set_option maxRecDepth 20000 in
theorem k_f_Law_isPlanned_496 (O : Nat → Option va_E) (f d : Nat) (K451 : Nat → Nat → Int32 → Nat → Int32 → xM → Option (Int32 × xM)) (hK451 : ∀ (v0 : Nat) (v6 : Nat) (v10 : Int32) (v11 : Nat) (v12 : Int32) M, xZ oI O (d + 69) 203 451 [(0, .ref v0), (6, .ref v6), (10, .int v10), (11, .ref v11), (12, .int v12)] [] M (K451 v0 v6 v10 v11 v12 M)) (v0 : Nat) (v6 : Nat) (v11 : Nat) (v12 : Int32) (s0 : Int32) (s1 : Int32) (M : xM) : xZ oI O (d + 69) 203 496 [(0, .ref v0), (6, .ref v6), (11, .ref v11), (12, .int v12)] [.int s1, .int s0] M (f_Law_isPlanned_496 O f K451 v0 v6 v11 v12 s0 s1 M) := by
  unfold f_Law_isPlanned_496
  refine xZ.adv (me := xm203) hP_203 4 (pc' := 451) (lv' := [(12, .int (v12 + (1 : Int32))), (10, .int (s0 + s1)), (0, .ref v0), (6, .ref v6), (11, .ref v11)]) (st' := []) rfl ?_
  exact xZ.sub (xsc (.tail _ (.tail _ (.head _))) (xsc (.tail _ (.tail _ (.tail _ (.head _)))) (xsc (.tail _ (.head _)) (xsc (.tail _ (.tail _ (.tail _ (.tail _ (.head _))))) (xsc (.head _) xsn))))) (show ([12, 10, 0, 6, 11] : List Nat).Nodup from by decide) (hK451 v0 v6 (s0 + s1) v11 (v12 + (1 : Int32)) M)
def f_Law_isPlanned_519 (O : Nat → Option va_E) (f : Nat) : Nat → Nat → Nat → Nat → Int32 → xM → Option (Int32 × xM)
  | 0, _, _, _, _, _ => none
  | n + 1, v0, v6, v11, v12, M =>
    (gI O M v6 13 4).bind fun x1 =>
    if x1 ≤ v12 then (
      some ((1 : Int32), M)
    ) else
    (gR O M v6 13 0).bind fun x2 =>
    (aI O M x2 v12).bind fun x3 =>
    (gR O M v6 13 1).bind fun x4 =>
    (aI O M x4 v12).bind fun x5 =>
    (isO O M v0 12).bind fun _ =>
    xcl (f_Calendarhall_begin O f v0 x3 x5 M) fun x6 M1 =>
    (aI O M1 v11 v12).bind fun x7 =>
    if x6 = x7 then (
      f_Law_isPlanned_519 O f n v0 v6 v11 (v12 + (1 : Int32)) M1
    ) else
    some ((0 : Int32), M1)
set_option maxRecDepth 20000 in
theorem k_f_Law_isPlanned_519 (O : Nat → Option va_E) (f d : Nat) : ∀ (n : Nat) (v0 : Nat) (v6 : Nat) (v11 : Nat) (v12 : Int32) (M : xM), xZ oI O (d + 69) 203 519 [(0, .ref v0), (6, .ref v6), (11, .ref v11), (12, .int v12)] [] M (f_Law_isPlanned_519 O f n v0 v6 v11 v12 M) := by
  intro n
  induction n with
  | zero =>
    intro v0 v6 v11 v12 M
    exact xZ.no
  | succ n ih =>
    intro v0 v6 v11 v12 M
    unfold f_Law_isPlanned_519
    refine xZ.adv (me := xm203) hP_203 2 (pc' := 523) (lv' := [(0, .ref v0), (6, .ref v6), (11, .ref v11), (12, .int v12)]) (st' := [.ref v6, .int v12]) rfl ?_
    refine xZ.k_gI (me := xm203) hP_203 rfl (fun x1 => ?_)
    refine xZ.ic_ge (me := xm203) hP_203 rfl (fun h1 => ?_) (fun h1 => ?_)
    · skip
      refine xZ.adv (me := xm203) hP_203 1 (pc' := 566) (lv' := [(0, .ref v0), (6, .ref v6), (11, .ref v11), (12, .int v12)]) (st' := [.int (1 : Int32)]) rfl ?_
      exact xZ.rete (me := xm203) hP_203 rfl rfl rfl
    · skip
      refine xZ.adv (me := xm203) hP_203 2 (pc' := 532) (lv' := [(0, .ref v0), (6, .ref v6), (11, .ref v11), (12, .int v12)]) (st' := [.ref v6, .ref v0]) rfl ?_
      refine xZ.k_gR (me := xm203) hP_203 rfl (fun x2 => ?_)
      refine xZ.adv (me := xm203) hP_203 1 (pc' := 537) (lv' := [(0, .ref v0), (6, .ref v6), (11, .ref v11), (12, .int v12)]) (st' := [.int v12, .ref x2, .ref v0]) rfl ?_
      refine xZ.k_aI (me := xm203) hP_203 rfl (fun x3 => ?_)
      refine xZ.adv (me := xm203) hP_203 1 (pc' := 540) (lv' := [(0, .ref v0), (6, .ref v6), (11, .ref v11), (12, .int v12)]) (st' := [.ref v6, .int x3, .ref v0]) rfl ?_
      refine xZ.k_gR (me := xm203) hP_203 rfl (fun x4 => ?_)
      refine xZ.adv (me := xm203) hP_203 1 (pc' := 545) (lv' := [(0, .ref v0), (6, .ref v6), (11, .ref v11), (12, .int v12)]) (st' := [.int v12, .ref x4, .int x3, .ref v0]) rfl ?_
      refine xZ.k_aI (me := xm203) hP_203 rfl (fun x5 => ?_)
      refine xZ.callv (κ := oI) (av := [.int x3, .int x5]) (rest := []) (st' := fun x6 => [.int x6]) (k0 := v0) (me := xm203) hP_203 rfl (Or.inl rfl) ⟨rfl, by decide⟩ rfl rfl (Nat.le_of_ble_eq_true rfl) (by decide) hP_98 (Nat.le_of_ble_eq_true rfl) (fun _ => rfl) (k_f_Calendarhall_begin O f (d + 63) v0 x3 x5 M) (fun x6 M1 => ?_)
      refine xZ.adv (me := xm203) hP_203 2 (pc' := 553) (lv' := [(0, .ref v0), (6, .ref v6), (11, .ref v11), (12, .int v12)]) (st' := [.int v12, .ref v11, .int x6]) rfl ?_
      refine xZ.k_aI (me := xm203) hP_203 rfl (fun x7 => ?_)
      refine xZ.ic_eq (me := xm203) hP_203 rfl (fun h2 => ?_) (fun h2 => ?_)
      · skip
        refine xZ.adv (me := xm203) hP_203 2 (pc' := 519) (lv' := [(12, .int (v12 + (1 : Int32))), (0, .ref v0), (6, .ref v6), (11, .ref v11)]) (st' := []) rfl ?_
        exact xZ.sub (xsc (.tail _ (.head _)) (xsc (.tail _ (.tail _ (.head _))) (xsc (.tail _ (.tail _ (.tail _ (.head _)))) (xsc (.head _) xsn)))) (show ([12, 0, 6, 11] : List Nat).Nodup from by decide) (ih v0 v6 v11 (v12 + (1 : Int32)) M1)
      · skip
        refine xZ.adv (me := xm203) hP_203 1 (pc' := 558) (lv' := [(0, .ref v0), (6, .ref v6), (11, .ref v11), (12, .int v12)]) (st' := [.int (0 : Int32)]) rfl ?_
        exact xZ.rete (me := xm203) hP_203 rfl rfl rfl
def f_Law_isPlanned_451 (O : Nat → Option va_E) (f : Nat) : Nat → Nat → Nat → Int32 → Nat → Int32 → xM → Option (Int32 × xM)
  | 0, _, _, _, _, _, _ => none
  | n + 1, v0, v6, v10, v11, v12, M =>
    (gI O M v6 13 4).bind fun x1 =>
    if x1 ≤ v12 then (
      (isO O M v0 12).bind fun _ =>
      xcl (f_Calendarhall_applyPlan O f v0 M) fun x2 M1 =>
      if x2 = v10 then (
        f_Law_isPlanned_519 O f f v0 v6 v11 (0 : Int32) M1
      ) else
      some ((0 : Int32), M1)
    ) else
    (isO O M v0 12).bind fun _ =>
    xcl (f_Calendarhall_planAt O f v0 v12 (2 : Int32) M) fun x3 M2 =>
    (wI M2 v11 v12 x3).bind fun M3 =>
    (aI O M3 v11 v12).bind fun x4 =>
    (gR O M3 v6 13 2).bind fun x5 =>
    (aI O M3 x5 v12).bind fun x6 =>
    if x4 = x6 then (
      f_Law_isPlanned_496 O f (f_Law_isPlanned_451 O f n) v0 v6 v11 v12 v10 (0 : Int32) M3
    ) else
    f_Law_isPlanned_496 O f (f_Law_isPlanned_451 O f n) v0 v6 v11 v12 v10 (1 : Int32) M3
set_option maxRecDepth 20000 in
theorem k_f_Law_isPlanned_451 (O : Nat → Option va_E) (f d : Nat) : ∀ (n : Nat) (v0 : Nat) (v6 : Nat) (v10 : Int32) (v11 : Nat) (v12 : Int32) (M : xM), xZ oI O (d + 69) 203 451 [(0, .ref v0), (6, .ref v6), (10, .int v10), (11, .ref v11), (12, .int v12)] [] M (f_Law_isPlanned_451 O f n v0 v6 v10 v11 v12 M) := by
  intro n
  induction n with
  | zero =>
    intro v0 v6 v10 v11 v12 M
    exact xZ.no
  | succ n ih =>
    intro v0 v6 v10 v11 v12 M
    unfold f_Law_isPlanned_451
    refine xZ.adv (me := xm203) hP_203 2 (pc' := 455) (lv' := [(0, .ref v0), (6, .ref v6), (10, .int v10), (11, .ref v11), (12, .int v12)]) (st' := [.ref v6, .int v12]) rfl ?_
    refine xZ.k_gI (me := xm203) hP_203 rfl (fun x1 => ?_)
    refine xZ.ic_ge (me := xm203) hP_203 rfl (fun h1 => ?_) (fun h1 => ?_)
    · skip
      refine xZ.adv (me := xm203) hP_203 1 (pc' := 506) (lv' := [(0, .ref v0), (6, .ref v6), (10, .int v10), (11, .ref v11), (12, .int v12)]) (st' := [.ref v0]) rfl ?_
      refine xZ.callv (κ := oI) (av := []) (rest := []) (st' := fun x2 => [.int x2]) (k0 := v0) (me := xm203) hP_203 rfl (Or.inl rfl) ⟨rfl, by decide⟩ rfl rfl (Nat.le_of_ble_eq_true rfl) (by decide) hP_216 (Nat.le_of_ble_eq_true rfl) (fun _ => rfl) (k_f_Calendarhall_applyPlan O f (d + 61) v0 M) (fun x2 M1 => ?_)
      refine xZ.adv (me := xm203) hP_203 1 (pc' := 511) (lv' := [(0, .ref v0), (6, .ref v6), (10, .int v10), (11, .ref v11), (12, .int v12)]) (st' := [.int v10, .int x2]) rfl ?_
      refine xZ.ic_eq (me := xm203) hP_203 rfl (fun h2 => ?_) (fun h2 => ?_)
      · skip
        refine xZ.adv (me := xm203) hP_203 2 (pc' := 519) (lv' := [(12, .int (0 : Int32)), (0, .ref v0), (6, .ref v6), (10, .int v10), (11, .ref v11)]) (st' := []) rfl ?_
        exact xZ.sub (xsc (.tail _ (.head _)) (xsc (.tail _ (.tail _ (.head _))) (xsc (.tail _ (.tail _ (.tail _ (.tail _ (.head _))))) (xsc (.head _) xsn)))) (show ([12, 0, 6, 10, 11] : List Nat).Nodup from by decide) (k_f_Law_isPlanned_519 O f d f v0 v6 v11 (0 : Int32) M1)
      · skip
        refine xZ.adv (me := xm203) hP_203 1 (pc' := 515) (lv' := [(0, .ref v0), (6, .ref v6), (10, .int v10), (11, .ref v11), (12, .int v12)]) (st' := [.int (0 : Int32)]) rfl ?_
        exact xZ.rete (me := xm203) hP_203 rfl rfl rfl
    · skip
      refine xZ.adv (me := xm203) hP_203 5 (pc' := 469) (lv' := [(0, .ref v0), (6, .ref v6), (10, .int v10), (11, .ref v11), (12, .int v12)]) (st' := [.int (2 : Int32), .int v12, .ref v0, .int v12, .ref v11]) rfl ?_
      refine xZ.callv (κ := oI) (av := [.int v12, .int (2 : Int32)]) (rest := [.int v12, .ref v11]) (st' := fun x3 => [.int x3, .int v12, .ref v11]) (k0 := v0) (me := xm203) hP_203 rfl (Or.inl rfl) ⟨rfl, by decide⟩ rfl rfl (Nat.le_of_ble_eq_true rfl) (by decide) hP_212 (Nat.le_of_ble_eq_true rfl) (fun _ => rfl) (k_f_Calendarhall_planAt O f (d + 66) v0 v12 (2 : Int32) M) (fun x3 M2 => ?_)
      refine xZ.k_wI (me := xm203) hP_203 rfl (fun M3 => ?_)
      refine xZ.adv (me := xm203) hP_203 3 (pc' := 479) (lv' := [(0, .ref v0), (6, .ref v6), (10, .int v10), (11, .ref v11), (12, .int v12)]) (st' := [.int v12, .ref v11, .int v10]) rfl ?_
      refine xZ.k_aI (me := xm203) hP_203 rfl (fun x4 => ?_)
      refine xZ.adv (me := xm203) hP_203 1 (pc' := 482) (lv' := [(0, .ref v0), (6, .ref v6), (10, .int v10), (11, .ref v11), (12, .int v12)]) (st' := [.ref v6, .int x4, .int v10]) rfl ?_
      refine xZ.k_gR (me := xm203) hP_203 rfl (fun x5 => ?_)
      refine xZ.adv (me := xm203) hP_203 1 (pc' := 487) (lv' := [(0, .ref v0), (6, .ref v6), (10, .int v10), (11, .ref v11), (12, .int v12)]) (st' := [.int v12, .ref x5, .int x4, .int v10]) rfl ?_
      refine xZ.k_aI (me := xm203) hP_203 rfl (fun x6 => ?_)
      refine xZ.ic_ne (me := xm203) hP_203 rfl (fun h3 => ?_) (fun h3 => ?_)
      · skip
        refine xZ.adv (me := xm203) hP_203 2 (pc' := 496) (lv' := [(0, .ref v0), (6, .ref v6), (10, .int v10), (11, .ref v11), (12, .int v12)]) (st' := [.int (0 : Int32), .int v10]) rfl ?_
        exact xZ.sub (xsc (.head _) (xsc (.tail _ (.head _)) (xsc (.tail _ (.tail _ (.tail _ (.head _)))) (xsc (.tail _ (.tail _ (.tail _ (.tail _ (.head _))))) xsn)))) (show ([0, 6, 10, 11, 12] : List Nat).Nodup from by decide) (k_f_Law_isPlanned_496 O f d (f_Law_isPlanned_451 O f n) ih v0 v6 v11 v12 v10 (0 : Int32) M3)
      · skip
        refine xZ.adv (me := xm203) hP_203 1 (pc' := 496) (lv' := [(0, .ref v0), (6, .ref v6), (10, .int v10), (11, .ref v11), (12, .int v12)]) (st' := [.int (1 : Int32), .int v10]) rfl ?_
        exact xZ.sub (xsc (.head _) (xsc (.tail _ (.head _)) (xsc (.tail _ (.tail _ (.tail _ (.head _)))) (xsc (.tail _ (.tail _ (.tail _ (.tail _ (.head _))))) xsn)))) (show ([0, 6, 10, 11, 12] : List Nat).Nodup from by decide) (k_f_Law_isPlanned_496 O f d (f_Law_isPlanned_451 O f n) ih v0 v6 v11 v12 v10 (1 : Int32) M3)
def f_Law_isPlanned_362 (O : Nat → Option va_E) (f : Nat) (K293 : Nat → Nat → Int32 → Int32 → Int32 → Int32 → xM → Option (Int32 × xM)) : Nat → Nat → Nat → Int32 → Int32 → Int32 → Int32 → Int32 → Int32 → xM → Option (Int32 × xM)
  | 0, _, _, _, _, _, _, _, _, _ => none
  | n + 1, v0, v6, v8, v9, v10, v11, v12, v13, M =>
    if (3 : Int32) ≤ v13 then (
      K293 v0 v6 v8 v9 v10 (v11 + (1 : Int32)) M
    ) else
    if v12 = 0 then (
      f_Law_isPlanned_362 O f K293 n v0 v6 v8 v9 v10 v11 v12 (v13 + (1 : Int32)) M
    ) else
    (gR O M v6 13 0).bind fun x1 =>
    (aI O M x1 v11).bind fun x2 =>
    xcl (f_Law_takesPart O f v0 x2 v13 M) fun x3 M1 =>
    if x3 = 0 then (
      f_Law_isPlanned_362 O f K293 n v0 v6 v8 v9 v10 v11 v12 (v13 + (1 : Int32)) M1
    ) else
    (gR O M1 v6 13 0).bind fun x4 =>
    (aI O M1 x4 v10).bind fun x5 =>
    xcl (f_Law_takesPart O f v0 x5 v13 M1) fun x6 M2 =>
    if x6 = 0 then (
      f_Law_isPlanned_362 O f K293 n v0 v6 v8 v9 v10 v11 v12 (v13 + (1 : Int32)) M2
    ) else
    some ((0 : Int32), M2)
set_option maxRecDepth 20000 in
theorem k_f_Law_isPlanned_362 (O : Nat → Option va_E) (f d : Nat) (K293 : Nat → Nat → Int32 → Int32 → Int32 → Int32 → xM → Option (Int32 × xM)) (hK293 : ∀ (v0 : Nat) (v6 : Nat) (v8 : Int32) (v9 : Int32) (v10 : Int32) (v11 : Int32) M, xZ oI O (d + 69) 203 293 [(0, .ref v0), (6, .ref v6), (8, .int v8), (9, .int v9), (10, .int v10), (11, .int v11)] [] M (K293 v0 v6 v8 v9 v10 v11 M)) : ∀ (n : Nat) (v0 : Nat) (v6 : Nat) (v8 : Int32) (v9 : Int32) (v10 : Int32) (v11 : Int32) (v12 : Int32) (v13 : Int32) (M : xM), xZ oI O (d + 69) 203 362 [(0, .ref v0), (6, .ref v6), (8, .int v8), (9, .int v9), (10, .int v10), (11, .int v11), (12, .int v12), (13, .int v13)] [] M (f_Law_isPlanned_362 O f K293 n v0 v6 v8 v9 v10 v11 v12 v13 M) := by
  intro n
  induction n with
  | zero =>
    intro v0 v6 v8 v9 v10 v11 v12 v13 M
    exact xZ.no
  | succ n ih =>
    intro v0 v6 v8 v9 v10 v11 v12 v13 M
    unfold f_Law_isPlanned_362
    refine xZ.adv (me := xm203) hP_203 2 (pc' := 365) (lv' := [(0, .ref v0), (6, .ref v6), (8, .int v8), (9, .int v9), (10, .int v10), (11, .int v11), (12, .int v12), (13, .int v13)]) (st' := [.int (3 : Int32), .int v13]) rfl ?_
    refine xZ.ic_ge (me := xm203) hP_203 rfl (fun h1 => ?_) (fun h1 => ?_)
    · skip
      refine xZ.adv (me := xm203) hP_203 2 (pc' := 293) (lv' := [(11, .int (v11 + (1 : Int32))), (0, .ref v0), (6, .ref v6), (8, .int v8), (9, .int v9), (10, .int v10), (12, .int v12), (13, .int v13)]) (st' := []) rfl ?_
      exact xZ.sub (xsc (.tail _ (.head _)) (xsc (.tail _ (.tail _ (.head _))) (xsc (.tail _ (.tail _ (.tail _ (.head _)))) (xsc (.tail _ (.tail _ (.tail _ (.tail _ (.head _))))) (xsc (.tail _ (.tail _ (.tail _ (.tail _ (.tail _ (.head _)))))) (xsc (.head _) xsn)))))) (show ([11, 0, 6, 8, 9, 10, 12, 13] : List Nat).Nodup from by decide) (hK293 v0 v6 v8 v9 v10 (v11 + (1 : Int32)) M)
    · skip
      refine xZ.adv (me := xm203) hP_203 1 (pc' := 370) (lv' := [(0, .ref v0), (6, .ref v6), (8, .int v8), (9, .int v9), (10, .int v10), (11, .int v11), (12, .int v12), (13, .int v13)]) (st' := [.int v12]) rfl ?_
      refine xZ.if_eq (me := xm203) hP_203 rfl (fun h2 => ?_) (fun h2 => ?_)
      · skip
        refine xZ.adv (me := xm203) hP_203 2 (pc' := 362) (lv' := [(13, .int (v13 + (1 : Int32))), (0, .ref v0), (6, .ref v6), (8, .int v8), (9, .int v9), (10, .int v10), (11, .int v11), (12, .int v12)]) (st' := []) rfl ?_
        exact xZ.sub (xsc (.tail _ (.head _)) (xsc (.tail _ (.tail _ (.head _))) (xsc (.tail _ (.tail _ (.tail _ (.head _)))) (xsc (.tail _ (.tail _ (.tail _ (.tail _ (.head _))))) (xsc (.tail _ (.tail _ (.tail _ (.tail _ (.tail _ (.head _)))))) (xsc (.tail _ (.tail _ (.tail _ (.tail _ (.tail _ (.tail _ (.head _))))))) (xsc (.tail _ (.tail _ (.tail _ (.tail _ (.tail _ (.tail _ (.tail _ (.head _)))))))) (xsc (.head _) xsn)))))))) (show ([13, 0, 6, 8, 9, 10, 11, 12] : List Nat).Nodup from by decide) (ih v0 v6 v8 v9 v10 v11 v12 (v13 + (1 : Int32)) M)
      · skip
        refine xZ.adv (me := xm203) hP_203 2 (pc' := 376) (lv' := [(0, .ref v0), (6, .ref v6), (8, .int v8), (9, .int v9), (10, .int v10), (11, .int v11), (12, .int v12), (13, .int v13)]) (st' := [.ref v6, .ref v0]) rfl ?_
        refine xZ.k_gR (me := xm203) hP_203 rfl (fun x1 => ?_)
        refine xZ.adv (me := xm203) hP_203 1 (pc' := 381) (lv' := [(0, .ref v0), (6, .ref v6), (8, .int v8), (9, .int v9), (10, .int v10), (11, .int v11), (12, .int v12), (13, .int v13)]) (st' := [.int v11, .ref x1, .ref v0]) rfl ?_
        refine xZ.k_aI (me := xm203) hP_203 rfl (fun x2 => ?_)
        refine xZ.adv (me := xm203) hP_203 1 (pc' := 384) (lv' := [(0, .ref v0), (6, .ref v6), (8, .int v8), (9, .int v9), (10, .int v10), (11, .int v11), (12, .int v12), (13, .int v13)]) (st' := [.int v13, .int x2, .ref v0]) rfl ?_
        refine xZ.calls (κ := oI) (av := [.ref v0, .int x2, .int v13]) (rest := []) (st' := fun x3 => [.int x3]) (me := xm203) hP_203 rfl rfl rfl (Nat.le_of_ble_eq_true rfl) (by decide) hP_155 (Nat.le_of_ble_eq_true rfl) (fun _ => rfl) (k_f_Law_takesPart O f (d + 65) v0 x2 v13 M) (fun x3 M1 => ?_)
        refine xZ.if_eq (me := xm203) hP_203 rfl (fun h3 => ?_) (fun h3 => ?_)
        · skip
          refine xZ.adv (me := xm203) hP_203 2 (pc' := 362) (lv' := [(13, .int (v13 + (1 : Int32))), (0, .ref v0), (6, .ref v6), (8, .int v8), (9, .int v9), (10, .int v10), (11, .int v11), (12, .int v12)]) (st' := []) rfl ?_
          exact xZ.sub (xsc (.tail _ (.head _)) (xsc (.tail _ (.tail _ (.head _))) (xsc (.tail _ (.tail _ (.tail _ (.head _)))) (xsc (.tail _ (.tail _ (.tail _ (.tail _ (.head _))))) (xsc (.tail _ (.tail _ (.tail _ (.tail _ (.tail _ (.head _)))))) (xsc (.tail _ (.tail _ (.tail _ (.tail _ (.tail _ (.tail _ (.head _))))))) (xsc (.tail _ (.tail _ (.tail _ (.tail _ (.tail _ (.tail _ (.tail _ (.head _)))))))) (xsc (.head _) xsn)))))))) (show ([13, 0, 6, 8, 9, 10, 11, 12] : List Nat).Nodup from by decide) (ih v0 v6 v8 v9 v10 v11 v12 (v13 + (1 : Int32)) M1)
        · skip
          refine xZ.adv (me := xm203) hP_203 2 (pc' := 393) (lv' := [(0, .ref v0), (6, .ref v6), (8, .int v8), (9, .int v9), (10, .int v10), (11, .int v11), (12, .int v12), (13, .int v13)]) (st' := [.ref v6, .ref v0]) rfl ?_
          refine xZ.k_gR (me := xm203) hP_203 rfl (fun x4 => ?_)
          refine xZ.adv (me := xm203) hP_203 1 (pc' := 398) (lv' := [(0, .ref v0), (6, .ref v6), (8, .int v8), (9, .int v9), (10, .int v10), (11, .int v11), (12, .int v12), (13, .int v13)]) (st' := [.int v10, .ref x4, .ref v0]) rfl ?_
          refine xZ.k_aI (me := xm203) hP_203 rfl (fun x5 => ?_)
          refine xZ.adv (me := xm203) hP_203 1 (pc' := 401) (lv' := [(0, .ref v0), (6, .ref v6), (8, .int v8), (9, .int v9), (10, .int v10), (11, .int v11), (12, .int v12), (13, .int v13)]) (st' := [.int v13, .int x5, .ref v0]) rfl ?_
          refine xZ.calls (κ := oI) (av := [.ref v0, .int x5, .int v13]) (rest := []) (st' := fun x6 => [.int x6]) (me := xm203) hP_203 rfl rfl rfl (Nat.le_of_ble_eq_true rfl) (by decide) hP_155 (Nat.le_of_ble_eq_true rfl) (fun _ => rfl) (k_f_Law_takesPart O f (d + 65) v0 x5 v13 M1) (fun x6 M2 => ?_)
          refine xZ.if_eq (me := xm203) hP_203 rfl (fun h4 => ?_) (fun h4 => ?_)
          · skip
            refine xZ.adv (me := xm203) hP_203 2 (pc' := 362) (lv' := [(13, .int (v13 + (1 : Int32))), (0, .ref v0), (6, .ref v6), (8, .int v8), (9, .int v9), (10, .int v10), (11, .int v11), (12, .int v12)]) (st' := []) rfl ?_
            exact xZ.sub (xsc (.tail _ (.head _)) (xsc (.tail _ (.tail _ (.head _))) (xsc (.tail _ (.tail _ (.tail _ (.head _)))) (xsc (.tail _ (.tail _ (.tail _ (.tail _ (.head _))))) (xsc (.tail _ (.tail _ (.tail _ (.tail _ (.tail _ (.head _)))))) (xsc (.tail _ (.tail _ (.tail _ (.tail _ (.tail _ (.tail _ (.head _))))))) (xsc (.tail _ (.tail _ (.tail _ (.tail _ (.tail _ (.tail _ (.tail _ (.head _)))))))) (xsc (.head _) xsn)))))))) (show ([13, 0, 6, 8, 9, 10, 11, 12] : List Nat).Nodup from by decide) (ih v0 v6 v8 v9 v10 v11 v12 (v13 + (1 : Int32)) M2)
          · skip
            refine xZ.adv (me := xm203) hP_203 1 (pc' := 408) (lv' := [(0, .ref v0), (6, .ref v6), (8, .int v8), (9, .int v9), (10, .int v10), (11, .int v11), (12, .int v12), (13, .int v13)]) (st' := [.int (0 : Int32)]) rfl ?_
            exact xZ.rete (me := xm203) hP_203 rfl rfl rfl
def f_Law_isPlanned_357 (O : Nat → Option va_E) (f : Nat) (K293 : Nat → Nat → Int32 → Int32 → Int32 → Int32 → xM → Option (Int32 × xM)) (v0 : Nat) (v6 : Nat) (v8 : Int32) (v9 : Int32) (v10 : Int32) (v11 : Int32) (s0 : Int32) (M : xM) : Option (Int32 × xM) :=
  f_Law_isPlanned_362 O f K293 f v0 v6 v8 v9 v10 v11 s0 (0 : Int32) M
set_option maxRecDepth 20000 in
theorem k_f_Law_isPlanned_357 (O : Nat → Option va_E) (f d : Nat) (K293 : Nat → Nat → Int32 → Int32 → Int32 → Int32 → xM → Option (Int32 × xM)) (hK293 : ∀ (v0 : Nat) (v6 : Nat) (v8 : Int32) (v9 : Int32) (v10 : Int32) (v11 : Int32) M, xZ oI O (d + 69) 203 293 [(0, .ref v0), (6, .ref v6), (8, .int v8), (9, .int v9), (10, .int v10), (11, .int v11)] [] M (K293 v0 v6 v8 v9 v10 v11 M)) (v0 : Nat) (v6 : Nat) (v8 : Int32) (v9 : Int32) (v10 : Int32) (v11 : Int32) (s0 : Int32) (M : xM) : xZ oI O (d + 69) 203 357 [(0, .ref v0), (6, .ref v6), (8, .int v8), (9, .int v9), (10, .int v10), (11, .int v11)] [.int s0] M (f_Law_isPlanned_357 O f K293 v0 v6 v8 v9 v10 v11 s0 M) := by
  unfold f_Law_isPlanned_357
  refine xZ.adv (me := xm203) hP_203 3 (pc' := 362) (lv' := [(13, .int (0 : Int32)), (12, .int s0), (0, .ref v0), (6, .ref v6), (8, .int v8), (9, .int v9), (10, .int v10), (11, .int v11)]) (st' := []) rfl ?_
  exact xZ.sub (xsc (.tail _ (.tail _ (.head _))) (xsc (.tail _ (.tail _ (.tail _ (.head _)))) (xsc (.tail _ (.tail _ (.tail _ (.tail _ (.head _))))) (xsc (.tail _ (.tail _ (.tail _ (.tail _ (.tail _ (.head _)))))) (xsc (.tail _ (.tail _ (.tail _ (.tail _ (.tail _ (.tail _ (.head _))))))) (xsc (.tail _ (.tail _ (.tail _ (.tail _ (.tail _ (.tail _ (.tail _ (.head _)))))))) (xsc (.tail _ (.head _)) (xsc (.head _) xsn)))))))) (show ([13, 12, 0, 6, 8, 9, 10, 11] : List Nat).Nodup from by decide) (k_f_Law_isPlanned_362 O f d K293 hK293 f v0 v6 v8 v9 v10 v11 s0 (0 : Int32) M)
def f_Law_isPlanned_356 (O : Nat → Option va_E) (f : Nat) (K293 : Nat → Nat → Int32 → Int32 → Int32 → Int32 → xM → Option (Int32 × xM)) (v0 : Nat) (v6 : Nat) (v8 : Int32) (v9 : Int32) (v10 : Int32) (v11 : Int32) (M : xM) : Option (Int32 × xM) :=
  f_Law_isPlanned_357 O f K293 v0 v6 v8 v9 v10 v11 (0 : Int32) M
set_option maxRecDepth 20000 in
theorem k_f_Law_isPlanned_356 (O : Nat → Option va_E) (f d : Nat) (K293 : Nat → Nat → Int32 → Int32 → Int32 → Int32 → xM → Option (Int32 × xM)) (hK293 : ∀ (v0 : Nat) (v6 : Nat) (v8 : Int32) (v9 : Int32) (v10 : Int32) (v11 : Int32) M, xZ oI O (d + 69) 203 293 [(0, .ref v0), (6, .ref v6), (8, .int v8), (9, .int v9), (10, .int v10), (11, .int v11)] [] M (K293 v0 v6 v8 v9 v10 v11 M)) (v0 : Nat) (v6 : Nat) (v8 : Int32) (v9 : Int32) (v10 : Int32) (v11 : Int32) (M : xM) : xZ oI O (d + 69) 203 356 [(0, .ref v0), (6, .ref v6), (8, .int v8), (9, .int v9), (10, .int v10), (11, .int v11)] [] M (f_Law_isPlanned_356 O f K293 v0 v6 v8 v9 v10 v11 M) := by
  unfold f_Law_isPlanned_356
  refine xZ.adv (me := xm203) hP_203 1 (pc' := 357) (lv' := [(0, .ref v0), (6, .ref v6), (8, .int v8), (9, .int v9), (10, .int v10), (11, .int v11)]) (st' := [.int (0 : Int32)]) rfl ?_
  exact (k_f_Law_isPlanned_357 O f d K293 hK293 v0 v6 v8 v9 v10 v11 (0 : Int32) M)
def f_Law_isPlanned_293 (O : Nat → Option va_E) (f : Nat) (K218 : Nat → Nat → Int32 → Int32 → Int32 → xM → Option (Int32 × xM)) : Nat → Nat → Nat → Int32 → Int32 → Int32 → Int32 → xM → Option (Int32 × xM)
  | 0, _, _, _, _, _, _, _ => none
  | n + 1, v0, v6, v8, v9, v10, v11, M =>
    if v10 ≤ v11 then (
      K218 v0 v6 v8 v9 (v10 + (1 : Int32)) M
    ) else
    (isO O M v0 12).bind fun _ =>
    xcl (f_Calendarhall_planAt O f v0 v10 (2 : Int32) M) fun x1 M1 =>
    (isO O M1 v0 12).bind fun _ =>
    xcl (f_Calendarhall_planAt O f v0 v11 (2 : Int32) M1) fun x2 M2 =>
    (gR O M2 v6 13 3).bind fun x3 =>
    (aI O M2 x3 v11).bind fun x4 =>
    if (x2 + x4) ≤ x1 then (
      f_Law_isPlanned_356 O f (f_Law_isPlanned_293 O f K218 n) v0 v6 v8 v9 v10 v11 M2
    ) else
    (isO O M2 v0 12).bind fun _ =>
    xcl (f_Calendarhall_planAt O f v0 v11 (2 : Int32) M2) fun x5 M3 =>
    (isO O M3 v0 12).bind fun _ =>
    xcl (f_Calendarhall_planAt O f v0 v10 (2 : Int32) M3) fun x6 M4 =>
    (gR O M4 v6 13 3).bind fun x7 =>
    (aI O M4 x7 v10).bind fun x8 =>
    if (x6 + x8) ≤ x5 then (
      f_Law_isPlanned_356 O f (f_Law_isPlanned_293 O f K218 n) v0 v6 v8 v9 v10 v11 M4
    ) else
    f_Law_isPlanned_357 O f (f_Law_isPlanned_293 O f K218 n) v0 v6 v8 v9 v10 v11 (1 : Int32) M4
set_option maxRecDepth 20000 in
theorem k_f_Law_isPlanned_293 (O : Nat → Option va_E) (f d : Nat) (K218 : Nat → Nat → Int32 → Int32 → Int32 → xM → Option (Int32 × xM)) (hK218 : ∀ (v0 : Nat) (v6 : Nat) (v8 : Int32) (v9 : Int32) (v10 : Int32) M, xZ oI O (d + 69) 203 218 [(0, .ref v0), (6, .ref v6), (8, .int v8), (9, .int v9), (10, .int v10)] [] M (K218 v0 v6 v8 v9 v10 M)) : ∀ (n : Nat) (v0 : Nat) (v6 : Nat) (v8 : Int32) (v9 : Int32) (v10 : Int32) (v11 : Int32) (M : xM), xZ oI O (d + 69) 203 293 [(0, .ref v0), (6, .ref v6), (8, .int v8), (9, .int v9), (10, .int v10), (11, .int v11)] [] M (f_Law_isPlanned_293 O f K218 n v0 v6 v8 v9 v10 v11 M) := by
  intro n
  induction n with
  | zero =>
    intro v0 v6 v8 v9 v10 v11 M
    exact xZ.no
  | succ n ih =>
    intro v0 v6 v8 v9 v10 v11 M
    unfold f_Law_isPlanned_293
    refine xZ.adv (me := xm203) hP_203 2 (pc' := 297) (lv' := [(0, .ref v0), (6, .ref v6), (8, .int v8), (9, .int v9), (10, .int v10), (11, .int v11)]) (st' := [.int v10, .int v11]) rfl ?_
    refine xZ.ic_ge (me := xm203) hP_203 rfl (fun h1 => ?_) (fun h1 => ?_)
    · skip
      refine xZ.adv (me := xm203) hP_203 2 (pc' := 218) (lv' := [(10, .int (v10 + (1 : Int32))), (0, .ref v0), (6, .ref v6), (8, .int v8), (9, .int v9), (11, .int v11)]) (st' := []) rfl ?_
      exact xZ.sub (xsc (.tail _ (.head _)) (xsc (.tail _ (.tail _ (.head _))) (xsc (.tail _ (.tail _ (.tail _ (.head _)))) (xsc (.tail _ (.tail _ (.tail _ (.tail _ (.head _))))) (xsc (.head _) xsn))))) (show ([10, 0, 6, 8, 9, 11] : List Nat).Nodup from by decide) (hK218 v0 v6 v8 v9 (v10 + (1 : Int32)) M)
    · skip
      refine xZ.adv (me := xm203) hP_203 3 (pc' := 304) (lv' := [(0, .ref v0), (6, .ref v6), (8, .int v8), (9, .int v9), (10, .int v10), (11, .int v11)]) (st' := [.int (2 : Int32), .int v10, .ref v0]) rfl ?_
      refine xZ.callv (κ := oI) (av := [.int v10, .int (2 : Int32)]) (rest := []) (st' := fun x1 => [.int x1]) (k0 := v0) (me := xm203) hP_203 rfl (Or.inl rfl) ⟨rfl, by decide⟩ rfl rfl (Nat.le_of_ble_eq_true rfl) (by decide) hP_212 (Nat.le_of_ble_eq_true rfl) (fun _ => rfl) (k_f_Calendarhall_planAt O f (d + 66) v0 v10 (2 : Int32) M) (fun x1 M1 => ?_)
      refine xZ.adv (me := xm203) hP_203 3 (pc' := 311) (lv' := [(0, .ref v0), (6, .ref v6), (8, .int v8), (9, .int v9), (10, .int v10), (11, .int v11)]) (st' := [.int (2 : Int32), .int v11, .ref v0, .int x1]) rfl ?_
      refine xZ.callv (κ := oI) (av := [.int v11, .int (2 : Int32)]) (rest := [.int x1]) (st' := fun x2 => [.int x2, .int x1]) (k0 := v0) (me := xm203) hP_203 rfl (Or.inl rfl) ⟨rfl, by decide⟩ rfl rfl (Nat.le_of_ble_eq_true rfl) (by decide) hP_212 (Nat.le_of_ble_eq_true rfl) (fun _ => rfl) (k_f_Calendarhall_planAt O f (d + 66) v0 v11 (2 : Int32) M1) (fun x2 M2 => ?_)
      refine xZ.adv (me := xm203) hP_203 1 (pc' := 316) (lv' := [(0, .ref v0), (6, .ref v6), (8, .int v8), (9, .int v9), (10, .int v10), (11, .int v11)]) (st' := [.ref v6, .int x2, .int x1]) rfl ?_
      refine xZ.k_gR (me := xm203) hP_203 rfl (fun x3 => ?_)
      refine xZ.adv (me := xm203) hP_203 1 (pc' := 321) (lv' := [(0, .ref v0), (6, .ref v6), (8, .int v8), (9, .int v9), (10, .int v10), (11, .int v11)]) (st' := [.int v11, .ref x3, .int x2, .int x1]) rfl ?_
      refine xZ.k_aI (me := xm203) hP_203 rfl (fun x4 => ?_)
      refine xZ.adv (me := xm203) hP_203 1 (pc' := 323) (lv' := [(0, .ref v0), (6, .ref v6), (8, .int v8), (9, .int v9), (10, .int v10), (11, .int v11)]) (st' := [.int (x2 + x4), .int x1]) rfl ?_
      refine xZ.ic_ge (me := xm203) hP_203 rfl (fun h2 => ?_) (fun h2 => ?_)
      · skip
        exact (k_f_Law_isPlanned_356 O f d (f_Law_isPlanned_293 O f K218 n) ih v0 v6 v8 v9 v10 v11 M2)
      · skip
        refine xZ.adv (me := xm203) hP_203 3 (pc' := 330) (lv' := [(0, .ref v0), (6, .ref v6), (8, .int v8), (9, .int v9), (10, .int v10), (11, .int v11)]) (st' := [.int (2 : Int32), .int v11, .ref v0]) rfl ?_
        refine xZ.callv (κ := oI) (av := [.int v11, .int (2 : Int32)]) (rest := []) (st' := fun x5 => [.int x5]) (k0 := v0) (me := xm203) hP_203 rfl (Or.inl rfl) ⟨rfl, by decide⟩ rfl rfl (Nat.le_of_ble_eq_true rfl) (by decide) hP_212 (Nat.le_of_ble_eq_true rfl) (fun _ => rfl) (k_f_Calendarhall_planAt O f (d + 66) v0 v11 (2 : Int32) M2) (fun x5 M3 => ?_)
        refine xZ.adv (me := xm203) hP_203 3 (pc' := 337) (lv' := [(0, .ref v0), (6, .ref v6), (8, .int v8), (9, .int v9), (10, .int v10), (11, .int v11)]) (st' := [.int (2 : Int32), .int v10, .ref v0, .int x5]) rfl ?_
        refine xZ.callv (κ := oI) (av := [.int v10, .int (2 : Int32)]) (rest := [.int x5]) (st' := fun x6 => [.int x6, .int x5]) (k0 := v0) (me := xm203) hP_203 rfl (Or.inl rfl) ⟨rfl, by decide⟩ rfl rfl (Nat.le_of_ble_eq_true rfl) (by decide) hP_212 (Nat.le_of_ble_eq_true rfl) (fun _ => rfl) (k_f_Calendarhall_planAt O f (d + 66) v0 v10 (2 : Int32) M3) (fun x6 M4 => ?_)
        refine xZ.adv (me := xm203) hP_203 1 (pc' := 342) (lv' := [(0, .ref v0), (6, .ref v6), (8, .int v8), (9, .int v9), (10, .int v10), (11, .int v11)]) (st' := [.ref v6, .int x6, .int x5]) rfl ?_
        refine xZ.k_gR (me := xm203) hP_203 rfl (fun x7 => ?_)
        refine xZ.adv (me := xm203) hP_203 1 (pc' := 347) (lv' := [(0, .ref v0), (6, .ref v6), (8, .int v8), (9, .int v9), (10, .int v10), (11, .int v11)]) (st' := [.int v10, .ref x7, .int x6, .int x5]) rfl ?_
        refine xZ.k_aI (me := xm203) hP_203 rfl (fun x8 => ?_)
        refine xZ.adv (me := xm203) hP_203 1 (pc' := 349) (lv' := [(0, .ref v0), (6, .ref v6), (8, .int v8), (9, .int v9), (10, .int v10), (11, .int v11)]) (st' := [.int (x6 + x8), .int x5]) rfl ?_
        refine xZ.ic_ge (me := xm203) hP_203 rfl (fun h3 => ?_) (fun h3 => ?_)
        · skip
          exact (k_f_Law_isPlanned_356 O f d (f_Law_isPlanned_293 O f K218 n) ih v0 v6 v8 v9 v10 v11 M4)
        · skip
          refine xZ.adv (me := xm203) hP_203 2 (pc' := 357) (lv' := [(0, .ref v0), (6, .ref v6), (8, .int v8), (9, .int v9), (10, .int v10), (11, .int v11)]) (st' := [.int (1 : Int32)]) rfl ?_
          exact (k_f_Law_isPlanned_357 O f d (f_Law_isPlanned_293 O f K218 n) ih v0 v6 v8 v9 v10 v11 (1 : Int32) M4)
def f_Law_isPlanned_218 (O : Nat → Option va_E) (f : Nat) : Nat → Nat → Nat → Int32 → Int32 → Int32 → xM → Option (Int32 × xM)
  | 0, _, _, _, _, _, _ => none
  | n + 1, v0, v6, v8, v9, v10, M =>
    (gI O M v6 13 4).bind fun x1 =>
    if x1 ≤ v10 then (
      if v9 = v8 then (
        (gI O M v6 13 4).bind fun x2 =>
        xcl (nA M 0 x2) fun x3 M1 =>
        f_Law_isPlanned_451 O f f v0 v6 (0 : Int32) x3 (0 : Int32) M1
      ) else
      some ((0 : Int32), M)
    ) else
    (isO O M v0 12).bind fun _ =>
    xcl (f_Calendarhall_planAt O f v0 v10 (0 : Int32) M) fun x4 M2 =>
    (gR O M2 v6 13 0).bind fun x5 =>
    (aI O M2 x5 v10).bind fun x6 =>
    if x4 = x6 then (
      (isO O M2 v0 12).bind fun _ =>
      xcl (f_Calendarhall_planAt O f v0 v10 (1 : Int32) M2) fun x7 M3 =>
      (gR O M3 v6 13 1).bind fun x8 =>
      (aI O M3 x8 v10).bind fun x9 =>
      if x7 = x9 then (
        (isO O M3 v0 12).bind fun _ =>
        xcl (f_Calendarhall_planAt O f v0 v10 (2 : Int32) M3) fun x10 M4 =>
        (gR O M4 v6 13 2).bind fun x11 =>
        (aI O M4 x11 v10).bind fun x12 =>
        xcl (f_Math_abs O f (x10 - x12) M4) fun x13 M5 =>
        f_Law_isPlanned_293 O f (f_Law_isPlanned_218 O f n) f v0 v6 v8 (v9 + x13) v10 (0 : Int32) M5
      ) else
      some ((0 : Int32), M3)
    ) else
    some ((0 : Int32), M2)
set_option maxRecDepth 20000 in
theorem k_f_Law_isPlanned_218 (O : Nat → Option va_E) (f d : Nat) : ∀ (n : Nat) (v0 : Nat) (v6 : Nat) (v8 : Int32) (v9 : Int32) (v10 : Int32) (M : xM), xZ oI O (d + 69) 203 218 [(0, .ref v0), (6, .ref v6), (8, .int v8), (9, .int v9), (10, .int v10)] [] M (f_Law_isPlanned_218 O f n v0 v6 v8 v9 v10 M) := by
  intro n
  induction n with
  | zero =>
    intro v0 v6 v8 v9 v10 M
    exact xZ.no
  | succ n ih =>
    intro v0 v6 v8 v9 v10 M
    unfold f_Law_isPlanned_218
    refine xZ.adv (me := xm203) hP_203 2 (pc' := 222) (lv' := [(0, .ref v0), (6, .ref v6), (8, .int v8), (9, .int v9), (10, .int v10)]) (st' := [.ref v6, .int v10]) rfl ?_
    refine xZ.k_gI (me := xm203) hP_203 rfl (fun x1 => ?_)
    refine xZ.ic_ge (me := xm203) hP_203 rfl (fun h1 => ?_) (fun h1 => ?_)
    · skip
      refine xZ.adv (me := xm203) hP_203 2 (pc' := 431) (lv' := [(0, .ref v0), (6, .ref v6), (8, .int v8), (9, .int v9), (10, .int v10)]) (st' := [.int v8, .int v9]) rfl ?_
      refine xZ.ic_eq (me := xm203) hP_203 rfl (fun h2 => ?_) (fun h2 => ?_)
      · skip
        refine xZ.adv (me := xm203) hP_203 3 (pc' := 441) (lv' := [(10, .int (0 : Int32)), (0, .ref v0), (6, .ref v6), (8, .int v8), (9, .int v9)]) (st' := [.ref v6]) rfl ?_
        refine xZ.k_gI (me := xm203) hP_203 rfl (fun x2 => ?_)
        refine xZ.k_nA (me := xm203) hP_203 rfl rfl (by decide) (fun x3 M1 => ?_)
        refine xZ.adv (me := xm203) hP_203 3 (pc' := 451) (lv' := [(12, .int (0 : Int32)), (11, .ref x3), (10, .int (0 : Int32)), (0, .ref v0), (6, .ref v6), (8, .int v8), (9, .int v9)]) (st' := []) rfl ?_
        exact xZ.sub (xsc (.tail _ (.tail _ (.tail _ (.head _)))) (xsc (.tail _ (.tail _ (.tail _ (.tail _ (.head _))))) (xsc (.tail _ (.tail _ (.head _))) (xsc (.tail _ (.head _)) (xsc (.head _) xsn))))) (show ([12, 11, 10, 0, 6, 8, 9] : List Nat).Nodup from by decide) (k_f_Law_isPlanned_451 O f d f v0 v6 (0 : Int32) x3 (0 : Int32) M1)
      · skip
        refine xZ.adv (me := xm203) hP_203 1 (pc' := 435) (lv' := [(0, .ref v0), (6, .ref v6), (8, .int v8), (9, .int v9), (10, .int v10)]) (st' := [.int (0 : Int32)]) rfl ?_
        exact xZ.rete (me := xm203) hP_203 rfl rfl rfl
    · skip
      refine xZ.adv (me := xm203) hP_203 3 (pc' := 232) (lv' := [(0, .ref v0), (6, .ref v6), (8, .int v8), (9, .int v9), (10, .int v10)]) (st' := [.int (0 : Int32), .int v10, .ref v0]) rfl ?_
      refine xZ.callv (κ := oI) (av := [.int v10, .int (0 : Int32)]) (rest := []) (st' := fun x4 => [.int x4]) (k0 := v0) (me := xm203) hP_203 rfl (Or.inl rfl) ⟨rfl, by decide⟩ rfl rfl (Nat.le_of_ble_eq_true rfl) (by decide) hP_212 (Nat.le_of_ble_eq_true rfl) (fun _ => rfl) (k_f_Calendarhall_planAt O f (d + 66) v0 v10 (0 : Int32) M) (fun x4 M2 => ?_)
      refine xZ.adv (me := xm203) hP_203 1 (pc' := 237) (lv' := [(0, .ref v0), (6, .ref v6), (8, .int v8), (9, .int v9), (10, .int v10)]) (st' := [.ref v6, .int x4]) rfl ?_
      refine xZ.k_gR (me := xm203) hP_203 rfl (fun x5 => ?_)
      refine xZ.adv (me := xm203) hP_203 1 (pc' := 242) (lv' := [(0, .ref v0), (6, .ref v6), (8, .int v8), (9, .int v9), (10, .int v10)]) (st' := [.int v10, .ref x5, .int x4]) rfl ?_
      refine xZ.k_aI (me := xm203) hP_203 rfl (fun x6 => ?_)
      refine xZ.ic_ne (me := xm203) hP_203 rfl (fun h3 => ?_) (fun h3 => ?_)
      · skip
        refine xZ.adv (me := xm203) hP_203 3 (pc' := 250) (lv' := [(0, .ref v0), (6, .ref v6), (8, .int v8), (9, .int v9), (10, .int v10)]) (st' := [.int (1 : Int32), .int v10, .ref v0]) rfl ?_
        refine xZ.callv (κ := oI) (av := [.int v10, .int (1 : Int32)]) (rest := []) (st' := fun x7 => [.int x7]) (k0 := v0) (me := xm203) hP_203 rfl (Or.inl rfl) ⟨rfl, by decide⟩ rfl rfl (Nat.le_of_ble_eq_true rfl) (by decide) hP_212 (Nat.le_of_ble_eq_true rfl) (fun _ => rfl) (k_f_Calendarhall_planAt O f (d + 66) v0 v10 (1 : Int32) M2) (fun x7 M3 => ?_)
        refine xZ.adv (me := xm203) hP_203 1 (pc' := 255) (lv' := [(0, .ref v0), (6, .ref v6), (8, .int v8), (9, .int v9), (10, .int v10)]) (st' := [.ref v6, .int x7]) rfl ?_
        refine xZ.k_gR (me := xm203) hP_203 rfl (fun x8 => ?_)
        refine xZ.adv (me := xm203) hP_203 1 (pc' := 260) (lv' := [(0, .ref v0), (6, .ref v6), (8, .int v8), (9, .int v9), (10, .int v10)]) (st' := [.int v10, .ref x8, .int x7]) rfl ?_
        refine xZ.k_aI (me := xm203) hP_203 rfl (fun x9 => ?_)
        refine xZ.ic_eq (me := xm203) hP_203 rfl (fun h4 => ?_) (fun h4 => ?_)
        · skip
          refine xZ.adv (me := xm203) hP_203 4 (pc' := 272) (lv' := [(0, .ref v0), (6, .ref v6), (8, .int v8), (9, .int v9), (10, .int v10)]) (st' := [.int (2 : Int32), .int v10, .ref v0, .int v9]) rfl ?_
          refine xZ.callv (κ := oI) (av := [.int v10, .int (2 : Int32)]) (rest := [.int v9]) (st' := fun x10 => [.int x10, .int v9]) (k0 := v0) (me := xm203) hP_203 rfl (Or.inl rfl) ⟨rfl, by decide⟩ rfl rfl (Nat.le_of_ble_eq_true rfl) (by decide) hP_212 (Nat.le_of_ble_eq_true rfl) (fun _ => rfl) (k_f_Calendarhall_planAt O f (d + 66) v0 v10 (2 : Int32) M3) (fun x10 M4 => ?_)
          refine xZ.adv (me := xm203) hP_203 1 (pc' := 277) (lv' := [(0, .ref v0), (6, .ref v6), (8, .int v8), (9, .int v9), (10, .int v10)]) (st' := [.ref v6, .int x10, .int v9]) rfl ?_
          refine xZ.k_gR (me := xm203) hP_203 rfl (fun x11 => ?_)
          refine xZ.adv (me := xm203) hP_203 1 (pc' := 282) (lv' := [(0, .ref v0), (6, .ref v6), (8, .int v8), (9, .int v9), (10, .int v10)]) (st' := [.int v10, .ref x11, .int x10, .int v9]) rfl ?_
          refine xZ.k_aI (me := xm203) hP_203 rfl (fun x12 => ?_)
          refine xZ.adv (me := xm203) hP_203 1 (pc' := 284) (lv' := [(0, .ref v0), (6, .ref v6), (8, .int v8), (9, .int v9), (10, .int v10)]) (st' := [.int (x10 - x12), .int v9]) rfl ?_
          refine xZ.calls (κ := oI) (av := [.int (x10 - x12)]) (rest := [.int v9]) (st' := fun x13 => [.int x13, .int v9]) (me := xm203) hP_203 rfl rfl rfl (Nat.le_of_ble_eq_true rfl) (by decide) hP_249 (Nat.le_of_ble_eq_true rfl) (fun _ => rfl) (k_f_Math_abs O f (d + 68) (x10 - x12) M4) (fun x13 M5 => ?_)
          refine xZ.adv (me := xm203) hP_203 4 (pc' := 293) (lv' := [(11, .int (0 : Int32)), (9, .int (v9 + x13)), (0, .ref v0), (6, .ref v6), (8, .int v8), (10, .int v10)]) (st' := []) rfl ?_
          exact xZ.sub (xsc (.tail _ (.tail _ (.head _))) (xsc (.tail _ (.tail _ (.tail _ (.head _)))) (xsc (.tail _ (.tail _ (.tail _ (.tail _ (.head _))))) (xsc (.tail _ (.head _)) (xsc (.tail _ (.tail _ (.tail _ (.tail _ (.tail _ (.head _)))))) (xsc (.head _) xsn)))))) (show ([11, 9, 0, 6, 8, 10] : List Nat).Nodup from by decide) (k_f_Law_isPlanned_293 O f d (f_Law_isPlanned_218 O f n) ih f v0 v6 v8 (v9 + x13) v10 (0 : Int32) M5)
        · skip
          refine xZ.adv (me := xm203) hP_203 1 (pc' := 265) (lv' := [(0, .ref v0), (6, .ref v6), (8, .int v8), (9, .int v9), (10, .int v10)]) (st' := [.int (0 : Int32)]) rfl ?_
          exact xZ.rete (me := xm203) hP_203 rfl rfl rfl
      · skip
        refine xZ.adv (me := xm203) hP_203 1 (pc' := 265) (lv' := [(0, .ref v0), (6, .ref v6), (8, .int v8), (9, .int v9), (10, .int v10)]) (st' := [.int (0 : Int32)]) rfl ?_
        exact xZ.rete (me := xm203) hP_203 rfl rfl rfl
def f_Law_isPlanned_22 (O : Nat → Option va_E) (f : Nat) : Nat → Nat → Nat → Int32 → Int32 → Int32 → xM → Option (Int32 × xM)
  | 0, _, _, _, _, _, _ => none
  | n + 1, v0, v1, v2, v3, v4, M =>
    if v3 ≤ v4 then (
      (isO O M v1 15).bind fun _ =>
      xcl (f_LDraw_n O f v1 (9 : Int32) M) fun x1 M1 =>
      xlet (((1440 : Int32) * v2) + ((60 : Int32) * x1)) fun x2 =>
      (isO O M1 v1 15).bind fun _ =>
      xcl (f_LDraw_n O f v1 (10 : Int32) M1) fun x3 M2 =>
      xlet ((((1440 : Int32) * v2) + (700 : Int32)) + ((60 : Int32) * x3)) fun x4 =>
      if x2 < x4 then (
        xcl (nO M2 13) fun x5 M3 =>
        xcl (f_LDates_ctor O f x5 v0 v3 x2 x4 M3) fun _ M4 =>
        (gI O M4 x5 13 4).bind fun x7 =>
        xcl (nA M4 0 x7) fun x8 M5 =>
        xcl (f_Law_least O f 64 v0 x5 x8 (0 : Int32) x2 x4 M5) fun x9 M6 =>
        (isO O M6 v0 12).bind fun _ =>
        xcl (f_Calendarhall_plan O f v0 (4095 : Int32) x2 x4 M6) fun x10 M7 =>
        if x10 = x9 then (
          if x10 = (-1 : Int32) then (
            some ((1 : Int32), M7)
          ) else
          f_Law_isPlanned_218 O f f v0 x5 x10 (0 : Int32) (0 : Int32) M7
        ) else
        some ((0 : Int32), M7)
      ) else
      some ((1 : Int32), M2)
    ) else
    (isO O M v1 15).bind fun _ =>
    xcl (f_LDraw_n O f v1 (6 : Int32) M) fun x11 M8 =>
    (isO O M8 v1 15).bind fun _ =>
    xcl (f_LDraw_n O f v1 (4 : Int32) M8) fun x12 M9 =>
    (isO O M9 v1 15).bind fun _ =>
    xcl (f_LDraw_n O f v1 (7 : Int32) M9) fun x13 M10 =>
    (isO O M10 v0 12).bind fun _ =>
    xcl (f_Calendarhall_addSeries O f v0 (0 : Int32) v2 ((540 : Int32) + ((30 : Int32) * x11)) ((30 : Int32) + ((30 : Int32) * x12)) ((1 : Int32) + x13) (0 : Int32) M10) fun x14 M11 =>
    (isO O M11 v1 15).bind fun _ =>
    xcl (f_LDraw_is O f v1 (4 : Int32) M11) fun x15 M12 =>
    if x15 = 0 then (
      f_Law_isPlanned_22 O f n v0 v1 v2 v3 (v4 + (1 : Int32)) M12
    ) else
    (isO O M12 v0 12).bind fun _ =>
    xcl (f_Calendarhall_seriesAt O f v0 v4 (4 : Int32) M12) fun x16 M13 =>
    xcl (f_Integer_numberOfTrailingZeros O f x16 M13) fun x17 M14 =>
    (isO O M14 v0 12).bind fun _ =>
    xcl (f_Calendarhall_answer O f v0 v4 x17 (2 : Int32) M14) fun x18 M15 =>
    f_Law_isPlanned_22 O f n v0 v1 v2 v3 (v4 + (1 : Int32)) M15
set_option maxRecDepth 20000 in
theorem k_f_Law_isPlanned_22 (O : Nat → Option va_E) (f d : Nat) : ∀ (n : Nat) (v0 : Nat) (v1 : Nat) (v2 : Int32) (v3 : Int32) (v4 : Int32) (M : xM), xZ oI O (d + 69) 203 22 [(0, .ref v0), (1, .ref v1), (2, .int v2), (3, .int v3), (4, .int v4)] [] M (f_Law_isPlanned_22 O f n v0 v1 v2 v3 v4 M) := by
  intro n
  induction n with
  | zero =>
    intro v0 v1 v2 v3 v4 M
    exact xZ.no
  | succ n ih =>
    intro v0 v1 v2 v3 v4 M
    unfold f_Law_isPlanned_22
    refine xZ.adv (me := xm203) hP_203 2 (pc' := 25) (lv' := [(0, .ref v0), (1, .ref v1), (2, .int v2), (3, .int v3), (4, .int v4)]) (st' := [.int v3, .int v4]) rfl ?_
    refine xZ.ic_ge (me := xm203) hP_203 rfl (fun h1 => ?_) (fun h1 => ?_)
    · skip
      refine xZ.adv (me := xm203) hP_203 6 (pc' := 110) (lv' := [(0, .ref v0), (1, .ref v1), (2, .int v2), (3, .int v3), (4, .int v4)]) (st' := [.int (9 : Int32), .ref v1, .int (60 : Int32), .int ((1440 : Int32) * v2)]) rfl ?_
      refine xZ.callv (κ := oI) (av := [.int (9 : Int32)]) (rest := [.int (60 : Int32), .int ((1440 : Int32) * v2)]) (st' := fun x1 => [.int x1, .int (60 : Int32), .int ((1440 : Int32) * v2)]) (k0 := v1) (me := xm203) hP_203 rfl (Or.inl rfl) ⟨rfl, by decide⟩ rfl rfl (Nat.le_of_ble_eq_true rfl) (by decide) hP_12 (Nat.le_of_ble_eq_true rfl) (fun _ => rfl) (k_f_LDraw_n O f (d + 68) v1 (9 : Int32) M) (fun x1 M1 => ?_)
      refine xZ.adv (me := xm203) hP_203 3 (pc' := 117) (lv' := [(4, .int (((1440 : Int32) * v2) + ((60 : Int32) * x1))), (0, .ref v0), (1, .ref v1), (2, .int v2), (3, .int v3)]) (st' := []) rfl ?_
      refine xZ.letI (v := (((1440 : Int32) * v2) + ((60 : Int32) * x1))) (lvf := fun x2 => [(4, .int x2), (0, .ref v0), (1, .ref v1), (2, .int v2), (3, .int v3)]) (stf := fun x2 => []) ?_
      intro x2
      refine xZ.adv (me := xm203) hP_203 8 (pc' := 131) (lv' := [(4, .int x2), (0, .ref v0), (1, .ref v1), (2, .int v2), (3, .int v3)]) (st' := [.int (10 : Int32), .ref v1, .int (60 : Int32), .int (((1440 : Int32) * v2) + (700 : Int32))]) rfl ?_
      refine xZ.callv (κ := oI) (av := [.int (10 : Int32)]) (rest := [.int (60 : Int32), .int (((1440 : Int32) * v2) + (700 : Int32))]) (st' := fun x3 => [.int x3, .int (60 : Int32), .int (((1440 : Int32) * v2) + (700 : Int32))]) (k0 := v1) (me := xm203) hP_203 rfl (Or.inl rfl) ⟨rfl, by decide⟩ rfl rfl (Nat.le_of_ble_eq_true rfl) (by decide) hP_12 (Nat.le_of_ble_eq_true rfl) (fun _ => rfl) (k_f_LDraw_n O f (d + 68) v1 (10 : Int32) M1) (fun x3 M2 => ?_)
      refine xZ.adv (me := xm203) hP_203 3 (pc' := 138) (lv' := [(5, .int ((((1440 : Int32) * v2) + (700 : Int32)) + ((60 : Int32) * x3))), (4, .int x2), (0, .ref v0), (1, .ref v1), (2, .int v2), (3, .int v3)]) (st' := []) rfl ?_
      refine xZ.letI (v := ((((1440 : Int32) * v2) + (700 : Int32)) + ((60 : Int32) * x3))) (lvf := fun x4 => [(5, .int x4), (4, .int x2), (0, .ref v0), (1, .ref v1), (2, .int v2), (3, .int v3)]) (stf := fun x4 => []) ?_
      intro x4
      refine xZ.adv (me := xm203) hP_203 2 (pc' := 142) (lv' := [(5, .int x4), (4, .int x2), (0, .ref v0), (1, .ref v1), (2, .int v2), (3, .int v3)]) (st' := [.int x2, .int x4]) rfl ?_
      refine xZ.ic_gt (me := xm203) hP_203 rfl (fun h2 => ?_) (fun h2 => ?_)
      · skip
        refine xZ.k_nO (me := xm203) hP_203 rfl rfl (fun x5 M3 => ?_)
        refine xZ.adv (me := xm203) hP_203 5 (pc' := 157) (lv' := [(5, .int x4), (4, .int x2), (0, .ref v0), (1, .ref v1), (2, .int v2), (3, .int v3)]) (st' := [.int x4, .int x2, .int v3, .ref v0, .ref x5, .ref x5]) rfl ?_
        refine xZ.calli (κ := oU) (av := [.ref v0, .int v3, .int x2, .int x4]) (rest := [.ref x5]) (st' := fun _ => [.ref x5]) (k0 := x5) (me := xm203) hP_203 rfl (Or.inl rfl) rfl rfl (Nat.le_of_ble_eq_true rfl) (by decide) hP_152 (Nat.le_of_ble_eq_true rfl) (fun _ => rfl) (k_f_LDates_ctor O f (d + 62) x5 v0 v3 x2 x4 M3) (fun _ M4 => ?_)
        refine xZ.adv (me := xm203) hP_203 4 (pc' := 167) (lv' := [(6, .ref x5), (5, .int x4), (4, .int x2), (0, .ref v0), (1, .ref v1), (2, .int v2), (3, .int v3)]) (st' := [.ref x5, .ref x5, .ref v0]) rfl ?_
        refine xZ.k_gI (me := xm203) hP_203 rfl (fun x7 => ?_)
        refine xZ.k_nA (me := xm203) hP_203 rfl rfl (by decide) (fun x8 M5 => ?_)
        refine xZ.adv (me := xm203) hP_203 3 (pc' := 177) (lv' := [(6, .ref x5), (5, .int x4), (4, .int x2), (0, .ref v0), (1, .ref v1), (2, .int v2), (3, .int v3)]) (st' := [.int x4, .int x2, .int (0 : Int32), .ref x8, .ref x5, .ref v0]) rfl ?_
        refine xZ.calls (κ := oI) (av := [.ref v0, .ref x5, .ref x8, .int (0 : Int32), .int x2, .int x4]) (rest := []) (st' := fun x9 => [.int x9]) (me := xm203) hP_203 rfl rfl rfl (Nat.le_of_ble_eq_true rfl) (by decide) hP_204 (Nat.le_of_ble_eq_true rfl) (fun _ => rfl) (xZ.deep (k_f_Law_least O f 64 0 v0 x5 x8 (0 : Int32) x2 x4 M5) (by omega)) (fun x9 M6 => ?_)
        refine xZ.adv (me := xm203) hP_203 5 (pc' := 190) (lv' := [(7, .int x9), (6, .ref x5), (5, .int x4), (4, .int x2), (0, .ref v0), (1, .ref v1), (2, .int v2), (3, .int v3)]) (st' := [.int x4, .int x2, .int (4095 : Int32), .ref v0]) rfl ?_
        refine xZ.callv (κ := oI) (av := [.int (4095 : Int32), .int x2, .int x4]) (rest := []) (st' := fun x10 => [.int x10]) (k0 := v0) (me := xm203) hP_203 rfl (Or.inl rfl) ⟨rfl, by decide⟩ rfl rfl (Nat.le_of_ble_eq_true rfl) (by decide) hP_205 (Nat.le_of_ble_eq_true rfl) (fun _ => rfl) (k_f_Calendarhall_plan O f (d + 61) v0 (4095 : Int32) x2 x4 M6) (fun x10 M7 => ?_)
        refine xZ.adv (me := xm203) hP_203 3 (pc' := 199) (lv' := [(8, .int x10), (7, .int x9), (6, .ref x5), (5, .int x4), (4, .int x2), (0, .ref v0), (1, .ref v1), (2, .int v2), (3, .int v3)]) (st' := [.int x9, .int x10]) rfl ?_
        refine xZ.ic_eq (me := xm203) hP_203 rfl (fun h3 => ?_) (fun h3 => ?_)
        · skip
          refine xZ.adv (me := xm203) hP_203 2 (pc' := 207) (lv' := [(8, .int x10), (7, .int x9), (6, .ref x5), (5, .int x4), (4, .int x2), (0, .ref v0), (1, .ref v1), (2, .int v2), (3, .int v3)]) (st' := [.int (-1 : Int32), .int x10]) rfl ?_
          refine xZ.ic_ne (me := xm203) hP_203 rfl (fun h4 => ?_) (fun h4 => ?_)
          · skip
            refine xZ.adv (me := xm203) hP_203 1 (pc' := 211) (lv' := [(8, .int x10), (7, .int x9), (6, .ref x5), (5, .int x4), (4, .int x2), (0, .ref v0), (1, .ref v1), (2, .int v2), (3, .int v3)]) (st' := [.int (1 : Int32)]) rfl ?_
            exact xZ.rete (me := xm203) hP_203 rfl rfl rfl
          · skip
            refine xZ.adv (me := xm203) hP_203 4 (pc' := 218) (lv' := [(10, .int (0 : Int32)), (9, .int (0 : Int32)), (8, .int x10), (7, .int x9), (6, .ref x5), (5, .int x4), (4, .int x2), (0, .ref v0), (1, .ref v1), (2, .int v2), (3, .int v3)]) (st' := []) rfl ?_
            exact xZ.sub (xsc (.tail _ (.tail _ (.tail _ (.tail _ (.tail _ (.tail _ (.tail _ (.head _)))))))) (xsc (.tail _ (.tail _ (.tail _ (.tail _ (.head _))))) (xsc (.tail _ (.tail _ (.head _))) (xsc (.tail _ (.head _)) (xsc (.head _) xsn))))) (show ([10, 9, 8, 7, 6, 5, 4, 0, 1, 2, 3] : List Nat).Nodup from by decide) (k_f_Law_isPlanned_218 O f d f v0 x5 x10 (0 : Int32) (0 : Int32) M7)
        · skip
          refine xZ.adv (me := xm203) hP_203 1 (pc' := 203) (lv' := [(8, .int x10), (7, .int x9), (6, .ref x5), (5, .int x4), (4, .int x2), (0, .ref v0), (1, .ref v1), (2, .int v2), (3, .int v3)]) (st' := [.int (0 : Int32)]) rfl ?_
          exact xZ.rete (me := xm203) hP_203 rfl rfl rfl
      · skip
        refine xZ.adv (me := xm203) hP_203 1 (pc' := 146) (lv' := [(5, .int x4), (4, .int x2), (0, .ref v0), (1, .ref v1), (2, .int v2), (3, .int v3)]) (st' := [.int (1 : Int32)]) rfl ?_
        exact xZ.rete (me := xm203) hP_203 rfl rfl rfl
    · skip
      refine xZ.adv (me := xm203) hP_203 7 (pc' := 39) (lv' := [(0, .ref v0), (1, .ref v1), (2, .int v2), (3, .int v3), (4, .int v4)]) (st' := [.int (6 : Int32), .ref v1, .int (30 : Int32), .int (540 : Int32), .int v2, .int (0 : Int32), .ref v0]) rfl ?_
      refine xZ.callv (κ := oI) (av := [.int (6 : Int32)]) (rest := [.int (30 : Int32), .int (540 : Int32), .int v2, .int (0 : Int32), .ref v0]) (st' := fun x11 => [.int x11, .int (30 : Int32), .int (540 : Int32), .int v2, .int (0 : Int32), .ref v0]) (k0 := v1) (me := xm203) hP_203 rfl (Or.inl rfl) ⟨rfl, by decide⟩ rfl rfl (Nat.le_of_ble_eq_true rfl) (by decide) hP_12 (Nat.le_of_ble_eq_true rfl) (fun _ => rfl) (k_f_LDraw_n O f (d + 68) v1 (6 : Int32) M) (fun x11 M8 => ?_)
      refine xZ.adv (me := xm203) hP_203 6 (pc' := 50) (lv' := [(0, .ref v0), (1, .ref v1), (2, .int v2), (3, .int v3), (4, .int v4)]) (st' := [.int (4 : Int32), .ref v1, .int (30 : Int32), .int (30 : Int32), .int ((540 : Int32) + ((30 : Int32) * x11)), .int v2, .int (0 : Int32), .ref v0]) rfl ?_
      refine xZ.callv (κ := oI) (av := [.int (4 : Int32)]) (rest := [.int (30 : Int32), .int (30 : Int32), .int ((540 : Int32) + ((30 : Int32) * x11)), .int v2, .int (0 : Int32), .ref v0]) (st' := fun x12 => [.int x12, .int (30 : Int32), .int (30 : Int32), .int ((540 : Int32) + ((30 : Int32) * x11)), .int v2, .int (0 : Int32), .ref v0]) (k0 := v1) (me := xm203) hP_203 rfl (Or.inl rfl) ⟨rfl, by decide⟩ rfl rfl (Nat.le_of_ble_eq_true rfl) (by decide) hP_12 (Nat.le_of_ble_eq_true rfl) (fun _ => rfl) (k_f_LDraw_n O f (d + 68) v1 (4 : Int32) M8) (fun x12 M9 => ?_)
      refine xZ.adv (me := xm203) hP_203 5 (pc' := 59) (lv' := [(0, .ref v0), (1, .ref v1), (2, .int v2), (3, .int v3), (4, .int v4)]) (st' := [.int (7 : Int32), .ref v1, .int (1 : Int32), .int ((30 : Int32) + ((30 : Int32) * x12)), .int ((540 : Int32) + ((30 : Int32) * x11)), .int v2, .int (0 : Int32), .ref v0]) rfl ?_
      refine xZ.callv (κ := oI) (av := [.int (7 : Int32)]) (rest := [.int (1 : Int32), .int ((30 : Int32) + ((30 : Int32) * x12)), .int ((540 : Int32) + ((30 : Int32) * x11)), .int v2, .int (0 : Int32), .ref v0]) (st' := fun x13 => [.int x13, .int (1 : Int32), .int ((30 : Int32) + ((30 : Int32) * x12)), .int ((540 : Int32) + ((30 : Int32) * x11)), .int v2, .int (0 : Int32), .ref v0]) (k0 := v1) (me := xm203) hP_203 rfl (Or.inl rfl) ⟨rfl, by decide⟩ rfl rfl (Nat.le_of_ble_eq_true rfl) (by decide) hP_12 (Nat.le_of_ble_eq_true rfl) (fun _ => rfl) (k_f_LDraw_n O f (d + 68) v1 (7 : Int32) M9) (fun x13 M10 => ?_)
      refine xZ.adv (me := xm203) hP_203 2 (pc' := 64) (lv' := [(0, .ref v0), (1, .ref v1), (2, .int v2), (3, .int v3), (4, .int v4)]) (st' := [.int (0 : Int32), .int ((1 : Int32) + x13), .int ((30 : Int32) + ((30 : Int32) * x12)), .int ((540 : Int32) + ((30 : Int32) * x11)), .int v2, .int (0 : Int32), .ref v0]) rfl ?_
      refine xZ.callv (κ := oI) (av := [.int (0 : Int32), .int v2, .int ((540 : Int32) + ((30 : Int32) * x11)), .int ((30 : Int32) + ((30 : Int32) * x12)), .int ((1 : Int32) + x13), .int (0 : Int32)]) (rest := []) (st' := fun x14 => [.int x14]) (k0 := v0) (me := xm203) hP_203 rfl (Or.inl rfl) ⟨rfl, by decide⟩ rfl rfl (Nat.le_of_ble_eq_true rfl) (by decide) hP_36 (Nat.le_of_ble_eq_true rfl) (fun _ => rfl) (k_f_Calendarhall_addSeries O f (d + 61) v0 (0 : Int32) v2 ((540 : Int32) + ((30 : Int32) * x11)) ((30 : Int32) + ((30 : Int32) * x12)) ((1 : Int32) + x13) (0 : Int32) M10) (fun x14 M11 => ?_)
      refine xZ.adv (me := xm203) hP_203 3 (pc' := 70) (lv' := [(0, .ref v0), (1, .ref v1), (2, .int v2), (3, .int v3), (4, .int v4)]) (st' := [.int (4 : Int32), .ref v1]) rfl ?_
      refine xZ.callv (κ := oI) (av := [.int (4 : Int32)]) (rest := []) (st' := fun x15 => [.int x15]) (k0 := v1) (me := xm203) hP_203 rfl (Or.inl rfl) ⟨rfl, by decide⟩ rfl rfl (Nat.le_of_ble_eq_true rfl) (by decide) hP_18 (Nat.le_of_ble_eq_true rfl) (fun _ => rfl) (k_f_LDraw_is O f (d + 67) v1 (4 : Int32) M11) (fun x15 M12 => ?_)
      refine xZ.if_eq (me := xm203) hP_203 rfl (fun h5 => ?_) (fun h5 => ?_)
      · skip
        refine xZ.adv (me := xm203) hP_203 2 (pc' := 22) (lv' := [(4, .int (v4 + (1 : Int32))), (0, .ref v0), (1, .ref v1), (2, .int v2), (3, .int v3)]) (st' := []) rfl ?_
        exact xZ.sub (xsc (.tail _ (.head _)) (xsc (.tail _ (.tail _ (.head _))) (xsc (.tail _ (.tail _ (.tail _ (.head _)))) (xsc (.tail _ (.tail _ (.tail _ (.tail _ (.head _))))) (xsc (.head _) xsn))))) (show ([4, 0, 1, 2, 3] : List Nat).Nodup from by decide) (ih v0 v1 v2 v3 (v4 + (1 : Int32)) M12)
      · skip
        refine xZ.adv (me := xm203) hP_203 5 (pc' := 83) (lv' := [(0, .ref v0), (1, .ref v1), (2, .int v2), (3, .int v3), (4, .int v4)]) (st' := [.int (4 : Int32), .int v4, .ref v0, .int v4, .ref v0]) rfl ?_
        refine xZ.callv (κ := oI) (av := [.int v4, .int (4 : Int32)]) (rest := [.int v4, .ref v0]) (st' := fun x16 => [.int x16, .int v4, .ref v0]) (k0 := v0) (me := xm203) hP_203 rfl (Or.inl rfl) ⟨rfl, by decide⟩ rfl rfl (Nat.le_of_ble_eq_true rfl) (by decide) hP_126 (Nat.le_of_ble_eq_true rfl) (fun _ => rfl) (k_f_Calendarhall_seriesAt O f (d + 66) v0 v4 (4 : Int32) M12) (fun x16 M13 => ?_)
        refine xZ.calls (κ := oI) (av := [.int x16]) (rest := [.int v4, .ref v0]) (st' := fun x17 => [.int x17, .int v4, .ref v0]) (me := xm203) hP_203 rfl rfl rfl (Nat.le_of_ble_eq_true rfl) (by decide) hP_253 (Nat.le_of_ble_eq_true rfl) (fun _ => rfl) (k_f_Integer_numberOfTrailingZeros O f (d + 68) x16 M13) (fun x17 M14 => ?_)
        refine xZ.adv (me := xm203) hP_203 1 (pc' := 90) (lv' := [(0, .ref v0), (1, .ref v1), (2, .int v2), (3, .int v3), (4, .int v4)]) (st' := [.int (2 : Int32), .int x17, .int v4, .ref v0]) rfl ?_
        refine xZ.callv (κ := oI) (av := [.int v4, .int x17, .int (2 : Int32)]) (rest := []) (st' := fun x18 => [.int x18]) (k0 := v0) (me := xm203) hP_203 rfl (Or.inl rfl) ⟨rfl, by decide⟩ rfl rfl (Nat.le_of_ble_eq_true rfl) (by decide) hP_147 (Nat.le_of_ble_eq_true rfl) (fun _ => rfl) (k_f_Calendarhall_answer O f (d + 63) v0 v4 x17 (2 : Int32) M14) (fun x18 M15 => ?_)
        refine xZ.adv (me := xm203) hP_203 3 (pc' := 22) (lv' := [(4, .int (v4 + (1 : Int32))), (0, .ref v0), (1, .ref v1), (2, .int v2), (3, .int v3)]) (st' := []) rfl ?_
        exact xZ.sub (xsc (.tail _ (.head _)) (xsc (.tail _ (.tail _ (.head _))) (xsc (.tail _ (.tail _ (.tail _ (.head _)))) (xsc (.tail _ (.tail _ (.tail _ (.tail _ (.head _))))) (xsc (.head _) xsn))))) (show ([4, 0, 1, 2, 3] : List Nat).Nodup from by decide) (ih v0 v1 v2 v3 (v4 + (1 : Int32)) M15)
def f_Law_isPlanned (O : Nat → Option va_E) (f : Nat) (v0 : Nat) (v1 : Nat) (M : xM) : Option (Int32 × xM) :=
  (isO O M v1 15).bind fun _ =>
  xcl (f_LDraw_n O f v1 (400 : Int32) M) fun x1 M1 =>
  (isO O M1 v1 15).bind fun _ =>
  xcl (f_LDraw_n O f v1 (3 : Int32) M1) fun x2 M2 =>
  f_Law_isPlanned_22 O f f v0 v1 ((100 : Int32) + x1) ((2 : Int32) + x2) (0 : Int32) M2
set_option maxRecDepth 20000 in
theorem k_f_Law_isPlanned (O : Nat → Option va_E) (f d : Nat) (v0 : Nat) (v1 : Nat) (M : xM) : xZ oI O (d + 69) 203 0 [(0, .ref v0), (1, .ref v1)] [] M (f_Law_isPlanned O f v0 v1 M) := by
  unfold f_Law_isPlanned
  refine xZ.adv (me := xm203) hP_203 3 (pc' := 6) (lv' := [(0, .ref v0), (1, .ref v1)]) (st' := [.int (400 : Int32), .ref v1, .int (100 : Int32)]) rfl ?_
  refine xZ.callv (κ := oI) (av := [.int (400 : Int32)]) (rest := [.int (100 : Int32)]) (st' := fun x1 => [.int x1, .int (100 : Int32)]) (k0 := v1) (me := xm203) hP_203 rfl (Or.inl rfl) ⟨rfl, by decide⟩ rfl rfl (Nat.le_of_ble_eq_true rfl) (by decide) hP_12 (Nat.le_of_ble_eq_true rfl) (fun _ => rfl) (k_f_LDraw_n O f (d + 68) v1 (400 : Int32) M) (fun x1 M1 => ?_)
  refine xZ.adv (me := xm203) hP_203 5 (pc' := 14) (lv' := [(2, .int ((100 : Int32) + x1)), (0, .ref v0), (1, .ref v1)]) (st' := [.int (3 : Int32), .ref v1, .int (2 : Int32)]) rfl ?_
  refine xZ.callv (κ := oI) (av := [.int (3 : Int32)]) (rest := [.int (2 : Int32)]) (st' := fun x2 => [.int x2, .int (2 : Int32)]) (k0 := v1) (me := xm203) hP_203 rfl (Or.inl rfl) ⟨rfl, by decide⟩ rfl rfl (Nat.le_of_ble_eq_true rfl) (by decide) hP_12 (Nat.le_of_ble_eq_true rfl) (fun _ => rfl) (k_f_LDraw_n O f (d + 68) v1 (3 : Int32) M1) (fun x2 M2 => ?_)
  refine xZ.adv (me := xm203) hP_203 4 (pc' := 22) (lv' := [(4, .int (0 : Int32)), (3, .int ((2 : Int32) + x2)), (2, .int ((100 : Int32) + x1)), (0, .ref v0), (1, .ref v1)]) (st' := []) rfl ?_
  exact xZ.sub (xsc (.tail _ (.tail _ (.tail _ (.head _)))) (xsc (.tail _ (.tail _ (.tail _ (.tail _ (.head _))))) (xsc (.tail _ (.tail _ (.head _))) (xsc (.tail _ (.head _)) (xsc (.head _) xsn))))) (show ([4, 3, 2, 0, 1] : List Nat).Nodup from by decide) (k_f_Law_isPlanned_22 O f d f v0 v1 ((100 : Int32) + x1) ((2 : Int32) + x2) (0 : Int32) M2)
def f_Hall_freeReminder_2 (O : Nat → Option va_E) (f : Nat) : Nat → Nat → Int32 → xM → Option (Int32 × xM)
  | 0, _, _, _ => none
  | n + 1, v0, v1, M =>
    (gR O M v0 4 6).bind fun x1 =>
    (aN O M x1).bind fun x2 =>
    if x2 ≤ v1 then (
      some ((-1 : Int32), M)
    ) else
    (gR O M v0 4 6).bind fun x3 =>
    (aI O M x3 v1).bind fun x4 =>
    if x4 = (-1 : Int32) then (
      some (v1, M)
    ) else
    f_Hall_freeReminder_2 O f n v0 (v1 + (1 : Int32)) M
set_option maxRecDepth 20000 in
theorem k_f_Hall_freeReminder_2 (O : Nat → Option va_E) (f d : Nat) : ∀ (n : Nat) (v0 : Nat) (v1 : Int32) (M : xM), xZ oI O (d + 0) 222 2 [(0, .ref v0), (1, .int v1)] [] M (f_Hall_freeReminder_2 O f n v0 v1 M) := by
  intro n
  induction n with
  | zero =>
    intro v0 v1 M
    exact xZ.no
  | succ n ih =>
    intro v0 v1 M
    unfold f_Hall_freeReminder_2
    refine xZ.adv (me := xm222) hP_222 2 (pc' := 4) (lv' := [(0, .ref v0), (1, .int v1)]) (st' := [.ref v0, .int v1]) rfl ?_
    refine xZ.k_gR (me := xm222) hP_222 rfl (fun x1 => ?_)
    refine xZ.k_aN (me := xm222) hP_222 rfl (fun x2 => ?_)
    refine xZ.ic_ge (me := xm222) hP_222 rfl (fun h1 => ?_) (fun h1 => ?_)
    · skip
      refine xZ.adv (me := xm222) hP_222 1 (pc' := 30) (lv' := [(0, .ref v0), (1, .int v1)]) (st' := [.int (-1 : Int32)]) rfl ?_
      exact xZ.reti (me := xm222) hP_222 rfl rfl
    · skip
      refine xZ.adv (me := xm222) hP_222 1 (pc' := 12) (lv' := [(0, .ref v0), (1, .int v1)]) (st' := [.ref v0]) rfl ?_
      refine xZ.k_gR (me := xm222) hP_222 rfl (fun x3 => ?_)
      refine xZ.adv (me := xm222) hP_222 1 (pc' := 16) (lv' := [(0, .ref v0), (1, .int v1)]) (st' := [.int v1, .ref x3]) rfl ?_
      refine xZ.k_aI (me := xm222) hP_222 rfl (fun x4 => ?_)
      refine xZ.adv (me := xm222) hP_222 1 (pc' := 18) (lv' := [(0, .ref v0), (1, .int v1)]) (st' := [.int (-1 : Int32), .int x4]) rfl ?_
      refine xZ.ic_ne (me := xm222) hP_222 rfl (fun h2 => ?_) (fun h2 => ?_)
      · skip
        refine xZ.adv (me := xm222) hP_222 1 (pc' := 22) (lv' := [(0, .ref v0), (1, .int v1)]) (st' := [.int v1]) rfl ?_
        exact xZ.reti (me := xm222) hP_222 rfl rfl
      · skip
        refine xZ.adv (me := xm222) hP_222 2 (pc' := 2) (lv' := [(1, .int (v1 + (1 : Int32))), (0, .ref v0)]) (st' := []) rfl ?_
        exact xZ.sub (xsc (.tail _ (.head _)) (xsc (.head _) xsn)) (show ([1, 0] : List Nat).Nodup from by decide) (ih v0 (v1 + (1 : Int32)) M)
def f_Hall_freeReminder (O : Nat → Option va_E) (f : Nat) (v0 : Nat) (M : xM) : Option (Int32 × xM) :=
  f_Hall_freeReminder_2 O f f v0 (0 : Int32) M
set_option maxRecDepth 20000 in
theorem k_f_Hall_freeReminder (O : Nat → Option va_E) (f d : Nat) (v0 : Nat) (M : xM) : xZ oI O (d + 0) 222 0 [(0, .ref v0)] [] M (f_Hall_freeReminder O f v0 M) := by
  unfold f_Hall_freeReminder
  refine xZ.adv (me := xm222) hP_222 2 (pc' := 2) (lv' := [(1, .int (0 : Int32)), (0, .ref v0)]) (st' := []) rfl ?_
  exact xZ.sub (xsc (.tail _ (.head _)) (xsc (.head _) xsn)) (show ([1, 0] : List Nat).Nodup from by decide) (k_f_Hall_freeReminder_2 O f d f v0 (0 : Int32) M)
def f_Hall_putReminder (O : Nat → Option va_E) (f : Nat) (v0 : Nat) (v1 : Int32) (v2 : Int32) (v3 : Int32) (M : xM) : Option (Unit × xM) :=
  if v1 < 0 then (
    some ((), M)
  ) else
  (gR O M v0 4 6).bind fun x1 =>
  (aN O M x1).bind fun x2 =>
  if x2 ≤ v1 then (
    some ((), M)
  ) else
  (gR O M v0 4 7).bind fun x3 =>
  (aN O M x3).bind fun x4 =>
  if v1 < x4 then (
    (gR O M v0 4 6).bind fun x5 =>
    (wI M x5 v1 v2).bind fun M1 =>
    (gR O M1 v0 4 7).bind fun x6 =>
    (wI M1 x6 v1 v3).bind fun M2 =>
    some ((), M2)
  ) else
  some ((), M)
set_option maxRecDepth 20000 in
theorem k_f_Hall_putReminder (O : Nat → Option va_E) (f d : Nat) (v0 : Nat) (v1 : Int32) (v2 : Int32) (v3 : Int32) (M : xM) : xZ oU O (d + 0) 223 0 [(0, .ref v0), (1, .int v1), (2, .int v2), (3, .int v3)] [] M (f_Hall_putReminder O f v0 v1 v2 v3 M) := by
  unfold f_Hall_putReminder
  refine xZ.adv (me := xm223) hP_223 1 (pc' := 1) (lv' := [(0, .ref v0), (1, .int v1), (2, .int v2), (3, .int v3)]) (st' := [.int v1]) rfl ?_
  refine xZ.if_lt (me := xm223) hP_223 rfl (fun h1 => ?_) (fun h1 => ?_)
  · skip
    exact xZ.retu (me := xm223) hP_223 rfl rfl
  · skip
    refine xZ.adv (me := xm223) hP_223 2 (pc' := 6) (lv' := [(0, .ref v0), (1, .int v1), (2, .int v2), (3, .int v3)]) (st' := [.ref v0, .int v1]) rfl ?_
    refine xZ.k_gR (me := xm223) hP_223 rfl (fun x1 => ?_)
    refine xZ.k_aN (me := xm223) hP_223 rfl (fun x2 => ?_)
    refine xZ.ic_ge (me := xm223) hP_223 rfl (fun h2 => ?_) (fun h2 => ?_)
    · skip
      exact xZ.retu (me := xm223) hP_223 rfl rfl
    · skip
      refine xZ.adv (me := xm223) hP_223 2 (pc' := 15) (lv' := [(0, .ref v0), (1, .int v1), (2, .int v2), (3, .int v3)]) (st' := [.ref v0, .int v1]) rfl ?_
      refine xZ.k_gR (me := xm223) hP_223 rfl (fun x3 => ?_)
      refine xZ.k_aN (me := xm223) hP_223 rfl (fun x4 => ?_)
      refine xZ.ic_lt (me := xm223) hP_223 rfl (fun h3 => ?_) (fun h3 => ?_)
      · skip
        refine xZ.adv (me := xm223) hP_223 1 (pc' := 24) (lv' := [(0, .ref v0), (1, .int v1), (2, .int v2), (3, .int v3)]) (st' := [.ref v0]) rfl ?_
        refine xZ.k_gR (me := xm223) hP_223 rfl (fun x5 => ?_)
        refine xZ.adv (me := xm223) hP_223 2 (pc' := 29) (lv' := [(0, .ref v0), (1, .int v1), (2, .int v2), (3, .int v3)]) (st' := [.int v2, .int v1, .ref x5]) rfl ?_
        refine xZ.k_wI (me := xm223) hP_223 rfl (fun M1 => ?_)
        refine xZ.adv (me := xm223) hP_223 1 (pc' := 31) (lv' := [(0, .ref v0), (1, .int v1), (2, .int v2), (3, .int v3)]) (st' := [.ref v0]) rfl ?_
        refine xZ.k_gR (me := xm223) hP_223 rfl (fun x6 => ?_)
        refine xZ.adv (me := xm223) hP_223 2 (pc' := 36) (lv' := [(0, .ref v0), (1, .int v1), (2, .int v2), (3, .int v3)]) (st' := [.int v3, .int v1, .ref x6]) rfl ?_
        refine xZ.k_wI (me := xm223) hP_223 rfl (fun M2 => ?_)
        exact xZ.retu (me := xm223) hP_223 rfl rfl
      · skip
        exact xZ.retu (me := xm223) hP_223 rfl rfl
def f_Calendarhall_remind (O : Nat → Option va_E) (f : Nat) (v0 : Nat) (v1 : Int32) (v2 : Int32) (M : xM) : Option (Int32 × xM) :=
  (isO O M v0 12).bind fun _ =>
  xcl (f_Calendarhall_seriesNumbered O f v0 v1 M) fun x1 M1 =>
  xcl (f_Calendarhall_needRange O f v2 (0 : Int32) (1440 : Int32) M1) fun _ M2 =>
  (gR O M2 v0 12 0).bind fun x3 =>
  (isO O M2 x3 4).bind fun _ =>
  xcl (f_Hall_freeReminder O f x3 M2) fun x4 M3 =>
  if x4 = (-1 : Int32) then (
    none
  ) else
  (isO O M3 v0 12).bind fun _ =>
  xcl (f_Calendarhall_saveForUndo O f v0 M3) fun _ M4 =>
  (gR O M4 v0 12 0).bind fun x6 =>
  (isO O M4 x6 4).bind fun _ =>
  xcl (f_Hall_putReminder O f x6 x4 v1 v2 M4) fun _ M5 =>
  some (x4, M5)
set_option maxRecDepth 20000 in
theorem k_f_Calendarhall_remind (O : Nat → Option va_E) (f d : Nat) (v0 : Nat) (v1 : Int32) (v2 : Int32) (M : xM) : xZ oI O (d + 5) 221 0 [(0, .ref v0), (1, .int v1), (2, .int v2)] [] M (f_Calendarhall_remind O f v0 v1 v2 M) := by
  unfold f_Calendarhall_remind
  refine xZ.adv (me := xm221) hP_221 2 (pc' := 2) (lv' := [(0, .ref v0), (1, .int v1), (2, .int v2)]) (st' := [.int v1, .ref v0]) rfl ?_
  refine xZ.callv (κ := oR) (av := [.int v1]) (rest := []) (st' := fun x1 => [.ref x1]) (k0 := v0) (me := xm221) hP_221 rfl (Or.inl rfl) ⟨rfl, by decide⟩ rfl rfl (Nat.le_of_ble_eq_true rfl) (by decide) hP_79 (Nat.le_of_ble_eq_true rfl) (fun _ => rfl) (k_f_Calendarhall_seriesNumbered O f (d + 3) v0 v1 M) (fun x1 M1 => ?_)
  refine xZ.adv (me := xm221) hP_221 4 (pc' := 11) (lv' := [(0, .ref v0), (1, .int v1), (2, .int v2)]) (st' := [.int (1440 : Int32), .int (0 : Int32), .int v2]) rfl ?_
  refine xZ.calls (κ := oU) (av := [.int v2, .int (0 : Int32), .int (1440 : Int32)]) (rest := []) (st' := fun _ => []) (me := xm221) hP_221 rfl rfl rfl (Nat.le_of_ble_eq_true rfl) (by decide) hP_22 (Nat.le_of_ble_eq_true rfl) (fun _ => rfl) (k_f_Calendarhall_needRange O f (d + 4) v2 (0 : Int32) (1440 : Int32) M1) (fun _ M2 => ?_)
  refine xZ.adv (me := xm221) hP_221 1 (pc' := 15) (lv' := [(0, .ref v0), (1, .int v1), (2, .int v2)]) (st' := [.ref v0]) rfl ?_
  refine xZ.k_gR (me := xm221) hP_221 rfl (fun x3 => ?_)
  refine xZ.callv (κ := oI) (av := []) (rest := []) (st' := fun x4 => [.int x4]) (k0 := x3) (me := xm221) hP_221 rfl (Or.inl rfl) ⟨rfl, by decide⟩ rfl rfl (Nat.le_of_ble_eq_true rfl) (by decide) hP_222 (Nat.le_of_ble_eq_true rfl) (fun _ => rfl) (k_f_Hall_freeReminder O f (d + 4) x3 M2) (fun x4 M3 => ?_)
  refine xZ.adv (me := xm221) hP_221 3 (pc' := 24) (lv' := [(3, .int x4), (0, .ref v0), (1, .int v1), (2, .int v2)]) (st' := [.int (-1 : Int32), .int x4]) rfl ?_
  refine xZ.ic_ne (me := xm221) hP_221 rfl (fun h1 => ?_) (fun h1 => ?_)
  · skip
    exact xZ.no
  · skip
    refine xZ.adv (me := xm221) hP_221 1 (pc' := 36) (lv' := [(3, .int x4), (0, .ref v0), (1, .int v1), (2, .int v2)]) (st' := [.ref v0]) rfl ?_
    refine xZ.callv (κ := oU) (av := []) (rest := []) (st' := fun _ => []) (k0 := v0) (me := xm221) hP_221 rfl (Or.inl rfl) ⟨rfl, by decide⟩ rfl rfl (Nat.le_of_ble_eq_true rfl) (by decide) hP_23 (Nat.le_of_ble_eq_true rfl) (fun _ => rfl) (k_f_Calendarhall_saveForUndo O f (d + 0) v0 M3) (fun _ M4 => ?_)
    refine xZ.adv (me := xm221) hP_221 1 (pc' := 40) (lv' := [(3, .int x4), (0, .ref v0), (1, .int v1), (2, .int v2)]) (st' := [.ref v0]) rfl ?_
    refine xZ.k_gR (me := xm221) hP_221 rfl (fun x6 => ?_)
    refine xZ.adv (me := xm221) hP_221 3 (pc' := 46) (lv' := [(3, .int x4), (0, .ref v0), (1, .int v1), (2, .int v2)]) (st' := [.int v2, .int v1, .int x4, .ref x6]) rfl ?_
    refine xZ.callv (κ := oU) (av := [.int x4, .int v1, .int v2]) (rest := []) (st' := fun _ => []) (k0 := x6) (me := xm221) hP_221 rfl (Or.inl rfl) ⟨rfl, by decide⟩ rfl rfl (Nat.le_of_ble_eq_true rfl) (by decide) hP_223 (Nat.le_of_ble_eq_true rfl) (fun _ => rfl) (k_f_Hall_putReminder O f (d + 4) x6 x4 v1 v2 M4) (fun _ M5 => ?_)
    refine xZ.adv (me := xm221) hP_221 1 (pc' := 50) (lv' := [(3, .int x4), (0, .ref v0), (1, .int v1), (2, .int v2)]) (st' := [.int x4]) rfl ?_
    exact xZ.reti (me := xm221) hP_221 rfl rfl
