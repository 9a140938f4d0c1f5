/-! ===== texts ===== -/
def f_Device_valueAt (O : Nat → Option va_E) (f : Nat) (v0 : Nat) (v1 : Int32) (M : xM) : Option (Int32 × xM) :=
  if v1 < 0 then (
    some ((-1 : Int32), M)
  ) else
  (gR O M v0 3 5).bind fun x1 =>
  (aN O M x1).bind fun x2 =>
  if x2 ≤ v1 then (
    some ((-1 : Int32), M)
  ) else
  (gR O M v0 3 5).bind fun x3 =>
  (aI O M x3 v1).bind fun x4 =>
  some (x4, M)
set_option maxRecDepth 20000 in
theorem k_f_Device_valueAt (O : Nat → Option va_E) (f d : Nat) (v0 : Nat) (v1 : Int32) (M : xM) : xZ oI O (d + 0) 242 0 [(0, .ref v0), (1, .int v1)] [] M (f_Device_valueAt O f v0 v1 M) := by
  unfold f_Device_valueAt
  refine xZ.adv (me := xm242) hP_242 1 (pc' := 1) (lv' := [(0, .ref v0), (1, .int v1)]) (st' := [.int v1]) rfl ?_
  refine xZ.if_lt (me := xm242) hP_242 rfl (fun h1 => ?_) (fun h1 => ?_)
  · skip
    refine xZ.adv (me := xm242) hP_242 1 (pc' := 23) (lv' := [(0, .ref v0), (1, .int v1)]) (st' := [.int (-1 : Int32)]) rfl ?_
    exact xZ.reti (me := xm242) hP_242 rfl rfl
  · skip
    refine xZ.adv (me := xm242) hP_242 2 (pc' := 6) (lv' := [(0, .ref v0), (1, .int v1)]) (st' := [.ref v0, .int v1]) rfl ?_
    refine xZ.k_gR (me := xm242) hP_242 rfl (fun x1 => ?_)
    refine xZ.k_aN (me := xm242) hP_242 rfl (fun x2 => ?_)
    refine xZ.ic_ge (me := xm242) hP_242 rfl (fun h2 => ?_) (fun h2 => ?_)
    · skip
      refine xZ.adv (me := xm242) hP_242 1 (pc' := 23) (lv' := [(0, .ref v0), (1, .int v1)]) (st' := [.int (-1 : Int32)]) rfl ?_
      exact xZ.reti (me := xm242) hP_242 rfl rfl
    · skip
      refine xZ.adv (me := xm242) hP_242 1 (pc' := 14) (lv' := [(0, .ref v0), (1, .int v1)]) (st' := [.ref v0]) rfl ?_
      refine xZ.k_gR (me := xm242) hP_242 rfl (fun x3 => ?_)
      refine xZ.adv (me := xm242) hP_242 1 (pc' := 18) (lv' := [(0, .ref v0), (1, .int v1)]) (st' := [.int v1, .ref x3]) rfl ?_
      refine xZ.k_aI (me := xm242) hP_242 rfl (fun x4 => ?_)
      refine xZ.adv (me := xm242) hP_242 1 (pc' := 23) (lv' := [(0, .ref v0), (1, .int v1)]) (st' := [.int x4]) rfl ?_
      exact xZ.reti (me := xm242) hP_242 rfl rfl
def f_Calendarhall_shown (O : Nat → Option va_E) (f : Nat) (v0 : Nat) (v1 : Int32) (v2 : Int32) (v3 : Int32) (M : xM) : Option (Int32 × xM) :=
  (isO O M v0 12).bind fun _ =>
  xcl (f_Calendarhall_deviceNumbered O f v0 v1 M) fun x1 M1 =>
  xcl (f_Calendarhall_needRange O f v2 (0 : Int32) (11 : Int32) M1) fun _ M2 =>
  xcl (f_Calendarhall_needRange O f v3 (0 : Int32) (3 : Int32) M2) fun _ M3 =>
  (isO O M3 x1 3).bind fun _ =>
  xcl (f_Device_valueAt O f x1 ((v2 * (4 : Int32)) + v3) M3) fun x4 M4 =>
  some (x4, M4)
set_option maxRecDepth 20000 in
theorem k_f_Calendarhall_shown (O : Nat → Option va_E) (f d : Nat) (v0 : Nat) (v1 : Int32) (v2 : Int32) (v3 : Int32) (M : xM) : xZ oI O (d + 2) 241 0 [(0, .ref v0), (1, .int v1), (2, .int v2), (3, .int v3)] [] M (f_Calendarhall_shown O f v0 v1 v2 v3 M) := by
  unfold f_Calendarhall_shown
  refine xZ.adv (me := xm241) hP_241 2 (pc' := 2) (lv' := [(0, .ref v0), (1, .int v1), (2, .int v2), (3, .int v3)]) (st' := [.int v1, .ref v0]) rfl ?_
  refine xZ.callv (κ := oR) (av := [.int v1]) (rest := []) (st' := fun x1 => [.ref x1]) (k0 := v0) (me := xm241) hP_241 rfl (Or.inl rfl) ⟨rfl, by decide⟩ rfl rfl (Nat.le_of_ble_eq_true rfl) (by decide) hP_238 (Nat.le_of_ble_eq_true rfl) (fun _ => rfl) (k_f_Calendarhall_deviceNumbered O f (d + 0) v0 v1 M) (fun x1 M1 => ?_)
  refine xZ.adv (me := xm241) hP_241 4 (pc' := 11) (lv' := [(4, .ref x1), (0, .ref v0), (1, .int v1), (2, .int v2), (3, .int v3)]) (st' := [.int (11 : Int32), .int (0 : Int32), .int v2]) rfl ?_
  refine xZ.calls (κ := oU) (av := [.int v2, .int (0 : Int32), .int (11 : Int32)]) (rest := []) (st' := fun _ => []) (me := xm241) hP_241 rfl rfl rfl (Nat.le_of_ble_eq_true rfl) (by decide) hP_22 (Nat.le_of_ble_eq_true rfl) (fun _ => rfl) (k_f_Calendarhall_needRange O f (d + 1) v2 (0 : Int32) (11 : Int32) M1) (fun _ M2 => ?_)
  refine xZ.adv (me := xm241) hP_241 3 (pc' := 17) (lv' := [(4, .ref x1), (0, .ref v0), (1, .int v1), (2, .int v2), (3, .int v3)]) (st' := [.int (3 : Int32), .int (0 : Int32), .int v3]) rfl ?_
  refine xZ.calls (κ := oU) (av := [.int v3, .int (0 : Int32), .int (3 : Int32)]) (rest := []) (st' := fun _ => []) (me := xm241) hP_241 rfl rfl rfl (Nat.le_of_ble_eq_true rfl) (by decide) hP_22 (Nat.le_of_ble_eq_true rfl) (fun _ => rfl) (k_f_Calendarhall_needRange O f (d + 1) v3 (0 : Int32) (3 : Int32) M2) (fun _ M3 => ?_)
  refine xZ.adv (me := xm241) hP_241 6 (pc' := 27) (lv' := [(4, .ref x1), (0, .ref v0), (1, .int v1), (2, .int v2), (3, .int v3)]) (st' := [.int ((v2 * (4 : Int32)) + v3), .ref x1]) rfl ?_
  refine xZ.callv (κ := oI) (av := [.int ((v2 * (4 : Int32)) + v3)]) (rest := []) (st' := fun x4 => [.int x4]) (k0 := x1) (me := xm241) hP_241 rfl (Or.inl rfl) ⟨rfl, by decide⟩ rfl rfl (Nat.le_of_ble_eq_true rfl) (by decide) hP_242 (Nat.le_of_ble_eq_true rfl) (fun _ => rfl) (k_f_Device_valueAt O f (d + 1) x1 ((v2 * (4 : Int32)) + v3) M3) (fun x4 M4 => ?_)
  exact xZ.reti (me := xm241) hP_241 rfl rfl
def f_Device_receive (O : Nat → Option va_E) (f : Nat) (v0 : Nat) (v1 : Nat) (v2 : Int32) (v3 : Int32) (M : xM) : Option (Unit × xM) :=
  if v3 < 0 then (
    some ((), M)
  ) else
  if v3 < (40 : Int32) then (
    (gI O M v0 3 0).bind fun x1 =>
    (gR O M v1 3 4).bind fun x2 =>
    (aI O M x2 v3).bind fun x3 =>
    xcl (f_Math_max O f x1 x3 M) fun x4 M1 =>
    (pI M1 v0 3 0 x4).bind fun M2 =>
    (gR O M2 v1 3 2).bind fun x5 =>
    (aI O M2 x5 v3).bind fun x6 =>
    (gR O M2 v1 3 3).bind fun x7 =>
    (aI O M2 x7 v3).bind fun x8 =>
    (gR O M2 v1 3 4).bind fun x9 =>
    (aI O M2 x9 v3).bind fun x10 =>
    (isO O M2 v0 3).bind fun _ =>
    xcl (f_Device_show O f v0 v2 x6 x8 x10 M2) fun _ M3 =>
    some ((), M3)
  ) else
  some ((), M)
set_option maxRecDepth 20000 in
theorem k_f_Device_receive (O : Nat → Option va_E) (f d : Nat) (v0 : Nat) (v1 : Nat) (v2 : Int32) (v3 : Int32) (M : xM) : xZ oU O (d + 1) 244 0 [(0, .ref v0), (1, .ref v1), (2, .int v2), (3, .int v3)] [] M (f_Device_receive O f v0 v1 v2 v3 M) := by
  unfold f_Device_receive
  refine xZ.adv (me := xm244) hP_244 1 (pc' := 1) (lv' := [(0, .ref v0), (1, .ref v1), (2, .int v2), (3, .int v3)]) (st' := [.int v3]) rfl ?_
  refine xZ.if_lt (me := xm244) hP_244 rfl (fun h1 => ?_) (fun h1 => ?_)
  · skip
    exact xZ.retu (me := xm244) hP_244 rfl rfl
  · skip
    refine xZ.adv (me := xm244) hP_244 2 (pc' := 7) (lv' := [(0, .ref v0), (1, .ref v1), (2, .int v2), (3, .int v3)]) (st' := [.int (40 : Int32), .int v3]) rfl ?_
    refine xZ.ic_lt (me := xm244) hP_244 rfl (fun h2 => ?_) (fun h2 => ?_)
    · skip
      refine xZ.adv (me := xm244) hP_244 2 (pc' := 13) (lv' := [(0, .ref v0), (1, .ref v1), (2, .int v2), (3, .int v3)]) (st' := [.ref v0, .ref v0]) rfl ?_
      refine xZ.k_gI (me := xm244) hP_244 rfl (fun x1 => ?_)
      refine xZ.adv (me := xm244) hP_244 1 (pc' := 17) (lv' := [(0, .ref v0), (1, .ref v1), (2, .int v2), (3, .int v3)]) (st' := [.ref v1, .int x1, .ref v0]) rfl ?_
      refine xZ.k_gR (me := xm244) hP_244 rfl (fun x2 => ?_)
      refine xZ.adv (me := xm244) hP_244 1 (pc' := 21) (lv' := [(0, .ref v0), (1, .ref v1), (2, .int v2), (3, .int v3)]) (st' := [.int v3, .ref x2, .int x1, .ref v0]) rfl ?_
      refine xZ.k_aI (me := xm244) hP_244 rfl (fun x3 => ?_)
      refine xZ.calls (κ := oI) (av := [.int x1, .int x3]) (rest := [.ref v0]) (st' := fun x4 => [.int x4, .ref v0]) (me := xm244) hP_244 rfl rfl rfl (Nat.le_of_ble_eq_true rfl) (by decide) hP_247 (Nat.le_of_ble_eq_true rfl) (fun _ => rfl) (k_f_Math_max O f (d + 0) x1 x3 M) (fun x4 M1 => ?_)
      refine xZ.k_pI (me := xm244) hP_244 rfl (fun M2 => ?_)
      refine xZ.adv (me := xm244) hP_244 3 (pc' := 31) (lv' := [(0, .ref v0), (1, .ref v1), (2, .int v2), (3, .int v3)]) (st' := [.ref v1, .int v2, .ref v0]) rfl ?_
      refine xZ.k_gR (me := xm244) hP_244 rfl (fun x5 => ?_)
      refine xZ.adv (me := xm244) hP_244 1 (pc' := 35) (lv' := [(0, .ref v0), (1, .ref v1), (2, .int v2), (3, .int v3)]) (st' := [.int v3, .ref x5, .int v2, .ref v0]) rfl ?_
      refine xZ.k_aI (me := xm244) hP_244 rfl (fun x6 => ?_)
      refine xZ.adv (me := xm244) hP_244 1 (pc' := 37) (lv' := [(0, .ref v0), (1, .ref v1), (2, .int v2), (3, .int v3)]) (st' := [.ref v1, .int x6, .int v2, .ref v0]) rfl ?_
      refine xZ.k_gR (me := xm244) hP_244 rfl (fun x7 => ?_)
      refine xZ.adv (me := xm244) hP_244 1 (pc' := 41) (lv' := [(0, .ref v0), (1, .ref v1), (2, .int v2), (3, .int v3)]) (st' := [.int v3, .ref x7, .int x6, .int v2, .ref v0]) rfl ?_
      refine xZ.k_aI (me := xm244) hP_244 rfl (fun x8 => ?_)
      refine xZ.adv (me := xm244) hP_244 1 (pc' := 43) (lv' := [(0, .ref v0), (1, .ref v1), (2, .int v2), (3, .int v3)]) (st' := [.ref v1, .int x8, .int x6, .int v2, .ref v0]) rfl ?_
      refine xZ.k_gR (me := xm244) hP_244 rfl (fun x9 => ?_)
      refine xZ.adv (me := xm244) hP_244 1 (pc' := 47) (lv' := [(0, .ref v0), (1, .ref v1), (2, .int v2), (3, .int v3)]) (st' := [.int v3, .ref x9, .int x8, .int x6, .int v2, .ref v0]) rfl ?_
      refine xZ.k_aI (me := xm244) hP_244 rfl (fun x10 => ?_)
      refine xZ.callv (κ := oU) (av := [.int v2, .int x6, .int x8, .int x10]) (rest := []) (st' := fun _ => []) (k0 := v0) (me := xm244) hP_244 rfl (Or.inl rfl) ⟨rfl, by decide⟩ rfl rfl (Nat.le_of_ble_eq_true rfl) (by decide) hP_240 (Nat.le_of_ble_eq_true rfl) (fun _ => rfl) (k_f_Device_show O f (d + 0) v0 v2 x6 x8 x10 M2) (fun _ M3 => ?_)
      exact xZ.retu (me := xm244) hP_244 rfl rfl
    · skip
      exact xZ.retu (me := xm244) hP_244 rfl rfl
def f_Calendarhall_deliver (O : Nat → Option va_E) (f : Nat) (v0 : Nat) (v1 : Int32) (v2 : Int32) (M : xM) : Option (Int32 × xM) :=
  (isO O M v0 12).bind fun _ =>
  xcl (f_Calendarhall_deviceNumbered O f v0 v1 M) fun x1 M1 =>
  if v2 < 0 then (
    none
  ) else
  (gI O M1 x1 3 1).bind fun x2 =>
  if v2 < x2 then (
    (isO O M1 v0 12).bind fun _ =>
    xcl (f_Calendarhall_deviceNumbered O f v0 ((1 : Int32) - v1) M1) fun x3 M2 =>
    (isO O M2 v0 12).bind fun _ =>
    xcl (f_Calendarhall_saveForUndo O f v0 M2) fun _ M3 =>
    (isO O M3 x3 3).bind fun _ =>
    xcl (f_Device_receive O f x3 x1 v1 v2 M3) fun _ M4 =>
    (gI O M4 x3 3 0).bind fun x6 =>
    some (x6, M4)
  ) else
  none
set_option maxRecDepth 20000 in
theorem k_f_Calendarhall_deliver (O : Nat → Option va_E) (f d : Nat) (v0 : Nat) (v1 : Int32) (v2 : Int32) (M : xM) : xZ oI O (d + 5) 243 0 [(0, .ref v0), (1, .int v1), (2, .int v2)] [] M (f_Calendarhall_deliver O f v0 v1 v2 M) := by
  unfold f_Calendarhall_deliver
  refine xZ.adv (me := xm243) hP_243 2 (pc' := 2) (lv' := [(0, .ref v0), (1, .int v1), (2, .int v2)]) (st' := [.int v1, .ref v0]) rfl ?_
  refine xZ.callv (κ := oR) (av := [.int v1]) (rest := []) (st' := fun x1 => [.ref x1]) (k0 := v0) (me := xm243) hP_243 rfl (Or.inl rfl) ⟨rfl, by decide⟩ rfl rfl (Nat.le_of_ble_eq_true rfl) (by decide) hP_238 (Nat.le_of_ble_eq_true rfl) (fun _ => rfl) (k_f_Calendarhall_deviceNumbered O f (d + 3) v0 v1 M) (fun x1 M1 => ?_)
  refine xZ.adv (me := xm243) hP_243 2 (pc' := 7) (lv' := [(3, .ref x1), (0, .ref v0), (1, .int v1), (2, .int v2)]) (st' := [.int v2]) rfl ?_
  refine xZ.if_lt (me := xm243) hP_243 rfl (fun h1 => ?_) (fun h1 => ?_)
  · skip
    exact xZ.no
  · skip
    refine xZ.adv (me := xm243) hP_243 2 (pc' := 12) (lv' := [(3, .ref x1), (0, .ref v0), (1, .int v1), (2, .int v2)]) (st' := [.ref x1, .int v2]) rfl ?_
    refine xZ.k_gI (me := xm243) hP_243 rfl (fun x2 => ?_)
    refine xZ.ic_lt (me := xm243) hP_243 rfl (fun h2 => ?_) (fun h2 => ?_)
    · skip
      refine xZ.adv (me := xm243) hP_243 4 (pc' := 30) (lv' := [(3, .ref x1), (0, .ref v0), (1, .int v1), (2, .int v2)]) (st' := [.int ((1 : Int32) - v1), .ref v0]) rfl ?_
      refine xZ.callv (κ := oR) (av := [.int ((1 : Int32) - v1)]) (rest := []) (st' := fun x3 => [.ref x3]) (k0 := v0) (me := xm243) hP_243 rfl (Or.inl rfl) ⟨rfl, by decide⟩ rfl rfl (Nat.le_of_ble_eq_true rfl) (by decide) hP_238 (Nat.le_of_ble_eq_true rfl) (fun _ => rfl) (k_f_Calendarhall_deviceNumbered O f (d + 3) v0 ((1 : Int32) - v1) M1) (fun x3 M2 => ?_)
      refine xZ.adv (me := xm243) hP_243 2 (pc' := 36) (lv' := [(4, .ref x3), (3, .ref x1), (0, .ref v0), (1, .int v1), (2, .int v2)]) (st' := [.ref v0]) rfl ?_
      refine xZ.callv (κ := oU) (av := []) (rest := []) (st' := fun _ => []) (k0 := v0) (me := xm243) hP_243 rfl (Or.inl rfl) ⟨rfl, by decide⟩ rfl rfl (Nat.le_of_ble_eq_true rfl) (by decide) hP_23 (Nat.le_of_ble_eq_true rfl) (fun _ => rfl) (k_f_Calendarhall_saveForUndo O f (d + 0) v0 M2) (fun _ M3 => ?_)
      refine xZ.adv (me := xm243) hP_243 4 (pc' := 44) (lv' := [(4, .ref x3), (3, .ref x1), (0, .ref v0), (1, .int v1), (2, .int v2)]) (st' := [.int v2, .int v1, .ref x1, .ref x3]) rfl ?_
      refine xZ.callv (κ := oU) (av := [.ref x1, .int v1, .int v2]) (rest := []) (st' := fun _ => []) (k0 := x3) (me := xm243) hP_243 rfl (Or.inl rfl) ⟨rfl, by decide⟩ rfl rfl (Nat.le_of_ble_eq_true rfl) (by decide) hP_244 (Nat.le_of_ble_eq_true rfl) (fun _ => rfl) (k_f_Device_receive O f (d + 3) x3 x1 v1 v2 M3) (fun _ M4 => ?_)
      refine xZ.adv (me := xm243) hP_243 1 (pc' := 49) (lv' := [(4, .ref x3), (3, .ref x1), (0, .ref v0), (1, .int v1), (2, .int v2)]) (st' := [.ref x3]) rfl ?_
      refine xZ.k_gI (me := xm243) hP_243 rfl (fun x6 => ?_)
      exact xZ.reti (me := xm243) hP_243 rfl rfl
    · skip
      exact xZ.no
def f_Law_gcd (O : Nat → Option va_E) (f : Nat) : Nat → Int32 → Int32 → xM → Option (Int32 × xM)
  | 0, _, _, _ => none
  | n + 1, v0, v1, M =>
    if v1 = 0 then (
      some (v0, M)
    ) else
    if v1 = 0 then none else xlet (v0 - v0 / v1 * v1) fun x1 =>
    xcl (f_Law_gcd O f n v1 x1 M) fun x2 M1 =>
    some (x2, M1)
set_option maxRecDepth 20000 in
theorem k_f_Law_gcd (O : Nat → Option va_E) (f : Nat) : ∀ (n d : Nat) (v0 : Int32) (v1 : Int32) (M : xM), xZ oI O (d + n + 1) 245 0 [(0, .int v0), (1, .int v1)] [] M (f_Law_gcd O f n v0 v1 M) := by
  intro n
  induction n with
  | zero =>
    intro d v0 v1 M
    exact xZ.no
  | succ n ih =>
    intro d v0 v1 M
    have hKS : ∀ (v0 : Int32) (v1 : Int32) M, xZ oI O (d + n + 1) 245 0 [(0, .int v0), (1, .int v1)] [] M (f_Law_gcd O f n v0 v1 M) := fun v0 v1 M => ih d v0 v1 M
    unfold f_Law_gcd
    refine xZ.adv (me := xm245) hP_245 1 (pc' := 1) (lv' := [(0, .int v0), (1, .int v1)]) (st' := [.int v1]) rfl ?_
    refine xZ.if_ne (me := xm245) hP_245 rfl (fun h1 => ?_) (fun h1 => ?_)
    · skip
      refine xZ.adv (me := xm245) hP_245 2 (pc' := 15) (lv' := [(0, .int v0), (1, .int v1)]) (st' := [.int v0]) rfl ?_
      exact xZ.reti (me := xm245) hP_245 rfl rfl
    · skip
      refine xZ.adv (me := xm245) hP_245 3 (pc' := 11) (lv' := [(0, .int v0), (1, .int v1)]) (st' := [.int v1, .int v0, .int v1]) rfl ?_
      refine xZ.rem (me := xm245) hP_245 rfl (fun x1 => ?_)
      refine xZ.calls (κ := oI) (av := [.int v1, .int x1]) (rest := []) (st' := fun x2 => [.int x2]) (me := xm245) hP_245 rfl rfl rfl (Nat.le_of_ble_eq_true rfl) (by decide) hP_245 (Nat.le_of_ble_eq_true rfl) (fun _ => rfl) (hKS v1 x1 M) (fun x2 M1 => ?_)
      exact xZ.reti (me := xm245) hP_245 rfl rfl
def f_Calendarhall_areAlike_14 (O : Nat → Option va_E) (f : Nat) : Nat → Nat → Nat → Int32 → xM → Option (Int32 × xM)
  | 0, _, _, _, _ => none
  | n + 1, v1, v2, v3, M =>
    if (48 : Int32) ≤ v3 then (
      some ((1 : Int32), M)
    ) else
    (isO O M v1 3).bind fun _ =>
    xcl (f_Device_valueAt O f v1 v3 M) fun x1 M1 =>
    (isO O M1 v2 3).bind fun _ =>
    xcl (f_Device_valueAt O f v2 v3 M1) fun x2 M2 =>
    if x1 = x2 then (
      f_Calendarhall_areAlike_14 O f n v1 v2 (v3 + (1 : Int32)) M2
    ) else
    some ((0 : Int32), M2)
set_option maxRecDepth 20000 in
theorem k_f_Calendarhall_areAlike_14 (O : Nat → Option va_E) (f d : Nat) : ∀ (n : Nat) (v1 : Nat) (v2 : Nat) (v3 : Int32) (M : xM), xZ oI O (d + 2) 246 14 [(1, .ref v1), (2, .ref v2), (3, .int v3)] [] M (f_Calendarhall_areAlike_14 O f n v1 v2 v3 M) := by
  intro n
  induction n with
  | zero =>
    intro v1 v2 v3 M
    exact xZ.no
  | succ n ih =>
    intro v1 v2 v3 M
    unfold f_Calendarhall_areAlike_14
    refine xZ.adv (me := xm246) hP_246 2 (pc' := 17) (lv' := [(1, .ref v1), (2, .ref v2), (3, .int v3)]) (st' := [.int (48 : Int32), .int v3]) rfl ?_
    refine xZ.ic_ge (me := xm246) hP_246 rfl (fun h1 => ?_) (fun h1 => ?_)
    · skip
      refine xZ.adv (me := xm246) hP_246 1 (pc' := 42) (lv' := [(1, .ref v1), (2, .ref v2), (3, .int v3)]) (st' := [.int (1 : Int32)]) rfl ?_
      exact xZ.rete (me := xm246) hP_246 rfl rfl rfl
    · skip
      refine xZ.adv (me := xm246) hP_246 2 (pc' := 22) (lv' := [(1, .ref v1), (2, .ref v2), (3, .int v3)]) (st' := [.int v3, .ref v1]) rfl ?_
      refine xZ.callv (κ := oI) (av := [.int v3]) (rest := []) (st' := fun x1 => [.int x1]) (k0 := v1) (me := xm246) hP_246 rfl (Or.inl rfl) ⟨rfl, by decide⟩ rfl rfl (Nat.le_of_ble_eq_true rfl) (by decide) hP_242 (Nat.le_of_ble_eq_true rfl) (fun _ => rfl) (k_f_Device_valueAt O f (d + 1) v1 v3 M) (fun x1 M1 => ?_)
      refine xZ.adv (me := xm246) hP_246 2 (pc' := 27) (lv' := [(1, .ref v1), (2, .ref v2), (3, .int v3)]) (st' := [.int v3, .ref v2, .int x1]) rfl ?_
      refine xZ.callv (κ := oI) (av := [.int v3]) (rest := [.int x1]) (st' := fun x2 => [.int x2, .int x1]) (k0 := v2) (me := xm246) hP_246 rfl (Or.inl rfl) ⟨rfl, by decide⟩ rfl rfl (Nat.le_of_ble_eq_true rfl) (by decide) hP_242 (Nat.le_of_ble_eq_true rfl) (fun _ => rfl) (k_f_Device_valueAt O f (d + 1) v2 v3 M1) (fun x2 M2 => ?_)
      refine xZ.ic_eq (me := xm246) hP_246 rfl (fun h2 => ?_) (fun h2 => ?_)
      · skip
        refine xZ.adv (me := xm246) hP_246 2 (pc' := 14) (lv' := [(3, .int (v3 + (1 : Int32))), (1, .ref v1), (2, .ref v2)]) (st' := []) rfl ?_
        exact xZ.sub (xsc (.tail _ (.head _)) (xsc (.tail _ (.tail _ (.head _))) (xsc (.head _) xsn))) (show ([3, 1, 2] : List Nat).Nodup from by decide) (ih v1 v2 (v3 + (1 : Int32)) M2)
      · skip
        refine xZ.adv (me := xm246) hP_246 1 (pc' := 34) (lv' := [(1, .ref v1), (2, .ref v2), (3, .int v3)]) (st' := [.int (0 : Int32)]) rfl ?_
        exact xZ.rete (me := xm246) hP_246 rfl rfl rfl
def f_Calendarhall_areAlike (O : Nat → Option va_E) (f : Nat) (v0 : Nat) (M : xM) : Option (Int32 × xM) :=
  (isO O M v0 12).bind fun _ =>
  xcl (f_Calendarhall_deviceNumbered O f v0 (0 : Int32) M) fun x1 M1 =>
  (isO O M1 v0 12).bind fun _ =>
  xcl (f_Calendarhall_deviceNumbered O f v0 (1 : Int32) M1) fun x2 M2 =>
  f_Calendarhall_areAlike_14 O f f x1 x2 (0 : Int32) M2
set_option maxRecDepth 20000 in
theorem k_f_Calendarhall_areAlike (O : Nat → Option va_E) (f d : Nat) (v0 : Nat) (M : xM) : xZ oI O (d + 2) 246 0 [(0, .ref v0)] [] M (f_Calendarhall_areAlike O f v0 M) := by
  unfold f_Calendarhall_areAlike
  refine xZ.adv (me := xm246) hP_246 2 (pc' := 2) (lv' := [(0, .ref v0)]) (st' := [.int (0 : Int32), .ref v0]) rfl ?_
  refine xZ.callv (κ := oR) (av := [.int (0 : Int32)]) (rest := []) (st' := fun x1 => [.ref x1]) (k0 := v0) (me := xm246) hP_246 rfl (Or.inl rfl) ⟨rfl, by decide⟩ rfl rfl (Nat.le_of_ble_eq_true rfl) (by decide) hP_238 (Nat.le_of_ble_eq_true rfl) (fun _ => rfl) (k_f_Calendarhall_deviceNumbered O f (d + 0) v0 (0 : Int32) M) (fun x1 M1 => ?_)
  refine xZ.adv (me := xm246) hP_246 3 (pc' := 8) (lv' := [(1, .ref x1), (0, .ref v0)]) (st' := [.int (1 : Int32), .ref v0]) rfl ?_
  refine xZ.callv (κ := oR) (av := [.int (1 : Int32)]) (rest := []) (st' := fun x2 => [.ref x2]) (k0 := v0) (me := xm246) hP_246 rfl (Or.inl rfl) ⟨rfl, by decide⟩ rfl rfl (Nat.le_of_ble_eq_true rfl) (by decide) hP_238 (Nat.le_of_ble_eq_true rfl) (fun _ => rfl) (k_f_Calendarhall_deviceNumbered O f (d + 0) v0 (1 : Int32) M1) (fun x2 M2 => ?_)
  refine xZ.adv (me := xm246) hP_246 3 (pc' := 14) (lv' := [(3, .int (0 : Int32)), (2, .ref x2), (1, .ref x1), (0, .ref v0)]) (st' := []) rfl ?_
  exact xZ.sub (xsc (.tail _ (.tail _ (.head _))) (xsc (.tail _ (.head _)) (xsc (.head _) xsn))) (show ([3, 2, 1, 0] : List Nat).Nodup from by decide) (k_f_Calendarhall_areAlike_14 O f d f x1 x2 (0 : Int32) M2)
def f_Law_areAlike (O : Nat → Option va_E) (f : Nat) (v0 : Nat) (v1 : Nat) (M : xM) : Option (Int32 × xM) :=
  xcl (nA M 0 (2 : Int32)) fun x1 M1 =>
  none
set_option maxRecDepth 20000 in
theorem k_f_Law_areAlike (O : Nat → Option va_E) (f d : Nat) (v0 : Nat) (v1 : Nat) (M : xM) : xZ oI O (d + 66) 236 0 [(0, .ref v0), (1, .ref v1)] [] M (f_Law_areAlike O f v0 v1 M) := by
  unfold f_Law_areAlike
  refine xZ.adv (me := xm236) hP_236 1 (pc' := 1) (lv' := [(0, .ref v0), (1, .ref v1)]) (st' := [.int (2 : Int32)]) rfl ?_
  refine xZ.k_nA (me := xm236) hP_236 rfl rfl (by decide) (fun x1 M1 => ?_)
  refine xZ.adv (me := xm236) hP_236 3 (pc' := 7) (lv' := [(2, .ref x1), (0, .ref v0), (1, .ref v1)]) (st' := [.int (48 : Int32), .int (2 : Int32)]) rfl ?_
  exact xZ.no
def f_Law_law (O : Nat → Option va_E) (f : Nat) (v0 : Nat) (M : xM) : Option (Int32 × xM) :=
  xcl (nO M 15) fun x1 M1 =>
  xcl (f_LDraw_ctor O f x1 v0 M1) fun _ M2 =>
  xcl (nO M2 12) fun x3 M3 =>
  xcl (f_Calendarhall_ctor O f x3 M3) fun _ M4 =>
  (isO O M4 x1 15).bind fun _ =>
  xcl (f_LDraw_n O f x1 (10 : Int32) M4) fun x5 M5 =>
  if x5 = (0 : Int32) then (
    xcl (f_Law_areDays O f x3 x1 M5) fun x6 M6 =>
    if xfit .boolean (.int x6) = true then some (x6, M6) else none
  ) else
  if x5 = (1 : Int32) then (
    xcl (f_Law_areDays O f x3 x1 M5) fun x7 M7 =>
    if xfit .boolean (.int x7) = true then some (x7, M7) else none
  ) else
  if x5 = (2 : Int32) then (
    xcl (f_Law_areDays O f x3 x1 M5) fun x8 M8 =>
    if xfit .boolean (.int x8) = true then some (x8, M8) else none
  ) else
  if x5 = (3 : Int32) then (
    xcl (f_Law_areZones O f x3 x1 M5) fun x9 M9 =>
    if xfit .boolean (.int x9) = true then some (x9, M9) else none
  ) else
  if x5 = (4 : Int32) then (
    xcl (f_Law_areZones O f x3 x1 M5) fun x10 M10 =>
    if xfit .boolean (.int x10) = true then some (x10, M10) else none
  ) else
  if x5 = (5 : Int32) then (
    xcl (f_Law_areFree O f x3 x1 M5) fun x11 M11 =>
    if xfit .boolean (.int x11) = true then some (x11, M11) else none
  ) else
  if x5 = (6 : Int32) then (
    xcl (f_Law_areLaid O f x3 x1 M5) fun x12 M12 =>
    if xfit .boolean (.int x12) = true then some (x12, M12) else none
  ) else
  if x5 = (7 : Int32) then (
    xcl (f_Law_isPlanned O f x3 x1 M5) fun x13 M13 =>
    if xfit .boolean (.int x13) = true then some (x13, M13) else none
  ) else
  if x5 = (8 : Int32) then (
    xcl (f_Law_areRung O f x3 x1 M5) fun x14 M14 =>
    if xfit .boolean (.int x14) = true then some (x14, M14) else none
  ) else
  xcl (f_Law_areAlike O f x3 x1 M5) fun x15 M15 =>
  if xfit .boolean (.int x15) = true then some (x15, M15) else none
set_option maxRecDepth 20000 in
theorem k_f_Law_law (O : Nat → Option va_E) (f d : Nat) (v0 : Nat) (M : xM) : xZ oI O (d + 70) 1000 0 [(0, .ref v0)] [] M (f_Law_law O f v0 M) := by
  unfold f_Law_law
  refine xZ.k_nO (me := xm1000) hP_1000 rfl rfl (fun x1 M1 => ?_)
  refine xZ.adv (me := xm1000) hP_1000 2 (pc' := 5) (lv' := [(0, .ref v0)]) (st' := [.ref v0, .ref x1, .ref x1]) rfl ?_
  refine xZ.calli (κ := oU) (av := [.ref v0]) (rest := [.ref x1]) (st' := fun _ => [.ref x1]) (k0 := x1) (me := xm1000) hP_1000 rfl (Or.inl rfl) rfl rfl (Nat.le_of_ble_eq_true rfl) (by decide) hP_11 (Nat.le_of_ble_eq_true rfl) (fun _ => rfl) (k_f_LDraw_ctor O f (d + 69) x1 v0 M1) (fun _ M2 => ?_)
  refine xZ.adv (me := xm1000) hP_1000 1 (pc' := 9) (lv' := [(1, .ref x1), (0, .ref v0)]) (st' := []) rfl ?_
  refine xZ.k_nO (me := xm1000) hP_1000 rfl rfl (fun x3 M3 => ?_)
  refine xZ.adv (me := xm1000) hP_1000 1 (pc' := 13) (lv' := [(1, .ref x1), (0, .ref v0)]) (st' := [.ref x3, .ref x3]) rfl ?_
  refine xZ.calli (κ := oU) (av := []) (rest := [.ref x3]) (st' := fun _ => [.ref x3]) (k0 := x3) (me := xm1000) hP_1000 rfl (Or.inl rfl) rfl rfl (Nat.le_of_ble_eq_true rfl) (by decide) hP_0 (Nat.le_of_ble_eq_true rfl) (fun _ => rfl) (k_f_Calendarhall_ctor O f (d + 66) x3 M3) (fun _ M4 => ?_)
  refine xZ.adv (me := xm1000) hP_1000 3 (pc' := 20) (lv' := [(2, .ref x3), (1, .ref x1), (0, .ref v0)]) (st' := [.int (10 : Int32), .ref x1]) rfl ?_
  refine xZ.callv (κ := oI) (av := [.int (10 : Int32)]) (rest := []) (st' := fun x5 => [.int x5]) (k0 := x1) (me := xm1000) hP_1000 rfl (Or.inl rfl) ⟨rfl, by decide⟩ rfl rfl (Nat.le_of_ble_eq_true rfl) (by decide) hP_12 (Nat.le_of_ble_eq_true rfl) (fun _ => rfl) (k_f_LDraw_n O f (d + 69) x1 (10 : Int32) M4) (fun x5 M5 => ?_)
  refine xZ.cs (fun h1 => ?_) (fun h1 => ?_)
  · refine xZ.one (pc' := 72) (lv' := [(2, .ref x3), (1, .ref x1), (0, .ref v0)]) (st' := []) (me := xm1000) hP_1000 rfl (by rw [h1]; rfl) ?_
    refine xZ.adv (me := xm1000) hP_1000 2 (pc' := 74) (lv' := [(2, .ref x3), (1, .ref x1), (0, .ref v0)]) (st' := [.ref x1, .ref x3]) rfl ?_
    refine xZ.calls (κ := oI) (av := [.ref x3, .ref x1]) (rest := []) (st' := fun x6 => [.int x6]) (me := xm1000) hP_1000 rfl rfl rfl (Nat.le_of_ble_eq_true rfl) (by decide) hP_13 (Nat.le_of_ble_eq_true rfl) (fun _ => rfl) (k_f_Law_areDays O f (d + 58) x3 x1 M5) (fun x6 M6 => ?_)
    exact xZ.retf (me := xm1000) hP_1000 rfl rfl
  refine xZ.cs (fun h2 => ?_) (fun h2 => ?_)
  · refine xZ.one (pc' := 72) (lv' := [(2, .ref x3), (1, .ref x1), (0, .ref v0)]) (st' := []) (me := xm1000) hP_1000 rfl (by rw [h2]; rfl) ?_
    refine xZ.adv (me := xm1000) hP_1000 2 (pc' := 74) (lv' := [(2, .ref x3), (1, .ref x1), (0, .ref v0)]) (st' := [.ref x1, .ref x3]) rfl ?_
    refine xZ.calls (κ := oI) (av := [.ref x3, .ref x1]) (rest := []) (st' := fun x7 => [.int x7]) (me := xm1000) hP_1000 rfl rfl rfl (Nat.le_of_ble_eq_true rfl) (by decide) hP_13 (Nat.le_of_ble_eq_true rfl) (fun _ => rfl) (k_f_Law_areDays O f (d + 58) x3 x1 M5) (fun x7 M7 => ?_)
    exact xZ.retf (me := xm1000) hP_1000 rfl rfl
  refine xZ.cs (fun h3 => ?_) (fun h3 => ?_)
  · refine xZ.one (pc' := 72) (lv' := [(2, .ref x3), (1, .ref x1), (0, .ref v0)]) (st' := []) (me := xm1000) hP_1000 rfl (by rw [h3]; rfl) ?_
    refine xZ.adv (me := xm1000) hP_1000 2 (pc' := 74) (lv' := [(2, .ref x3), (1, .ref x1), (0, .ref v0)]) (st' := [.ref x1, .ref x3]) rfl ?_
    refine xZ.calls (κ := oI) (av := [.ref x3, .ref x1]) (rest := []) (st' := fun x8 => [.int x8]) (me := xm1000) hP_1000 rfl rfl rfl (Nat.le_of_ble_eq_true rfl) (by decide) hP_13 (Nat.le_of_ble_eq_true rfl) (fun _ => rfl) (k_f_Law_areDays O f (d + 58) x3 x1 M5) (fun x8 M8 => ?_)
    exact xZ.retf (me := xm1000) hP_1000 rfl rfl
  refine xZ.cs (fun h4 => ?_) (fun h4 => ?_)
  · refine xZ.one (pc' := 78) (lv' := [(2, .ref x3), (1, .ref x1), (0, .ref v0)]) (st' := []) (me := xm1000) hP_1000 rfl (by rw [h4]; rfl) ?_
    refine xZ.adv (me := xm1000) hP_1000 2 (pc' := 80) (lv' := [(2, .ref x3), (1, .ref x1), (0, .ref v0)]) (st' := [.ref x1, .ref x3]) rfl ?_
    refine xZ.calls (κ := oI) (av := [.ref x3, .ref x1]) (rest := []) (st' := fun x9 => [.int x9]) (me := xm1000) hP_1000 rfl rfl rfl (Nat.le_of_ble_eq_true rfl) (by decide) hP_138 (Nat.le_of_ble_eq_true rfl) (fun _ => rfl) (k_f_Law_areZones O f (d + 62) x3 x1 M5) (fun x9 M9 => ?_)
    exact xZ.retf (me := xm1000) hP_1000 rfl rfl
  refine xZ.cs (fun h5 => ?_) (fun h5 => ?_)
  · refine xZ.one (pc' := 78) (lv' := [(2, .ref x3), (1, .ref x1), (0, .ref v0)]) (st' := []) (me := xm1000) hP_1000 rfl (by rw [h5]; rfl) ?_
    refine xZ.adv (me := xm1000) hP_1000 2 (pc' := 80) (lv' := [(2, .ref x3), (1, .ref x1), (0, .ref v0)]) (st' := [.ref x1, .ref x3]) rfl ?_
    refine xZ.calls (κ := oI) (av := [.ref x3, .ref x1]) (rest := []) (st' := fun x10 => [.int x10]) (me := xm1000) hP_1000 rfl rfl rfl (Nat.le_of_ble_eq_true rfl) (by decide) hP_138 (Nat.le_of_ble_eq_true rfl) (fun _ => rfl) (k_f_Law_areZones O f (d + 62) x3 x1 M5) (fun x10 M10 => ?_)
    exact xZ.retf (me := xm1000) hP_1000 rfl rfl
  refine xZ.cs (fun h6 => ?_) (fun h6 => ?_)
  · refine xZ.one (pc' := 84) (lv' := [(2, .ref x3), (1, .ref x1), (0, .ref v0)]) (st' := []) (me := xm1000) hP_1000 rfl (by rw [h6]; rfl) ?_
    refine xZ.adv (me := xm1000) hP_1000 2 (pc' := 86) (lv' := [(2, .ref x3), (1, .ref x1), (0, .ref v0)]) (st' := [.ref x1, .ref x3]) rfl ?_
    refine xZ.calls (κ := oI) (av := [.ref x3, .ref x1]) (rest := []) (st' := fun x11 => [.int x11]) (me := xm1000) hP_1000 rfl rfl rfl (Nat.le_of_ble_eq_true rfl) (by decide) hP_145 (Nat.le_of_ble_eq_true rfl) (fun _ => rfl) (k_f_Law_areFree O f (d + 60) x3 x1 M5) (fun x11 M11 => ?_)
    exact xZ.retf (me := xm1000) hP_1000 rfl rfl
  refine xZ.cs (fun h7 => ?_) (fun h7 => ?_)
  · refine xZ.one (pc' := 90) (lv' := [(2, .ref x3), (1, .ref x1), (0, .ref v0)]) (st' := []) (me := xm1000) hP_1000 rfl (by rw [h7]; rfl) ?_
    refine xZ.adv (me := xm1000) hP_1000 2 (pc' := 92) (lv' := [(2, .ref x3), (1, .ref x1), (0, .ref v0)]) (st' := [.ref x1, .ref x3]) rfl ?_
    refine xZ.calls (κ := oI) (av := [.ref x3, .ref x1]) (rest := []) (st' := fun x12 => [.int x12]) (me := xm1000) hP_1000 rfl rfl rfl (Nat.le_of_ble_eq_true rfl) (by decide) hP_186 (Nat.le_of_ble_eq_true rfl) (fun _ => rfl) (k_f_Law_areLaid O f (d + 60) x3 x1 M5) (fun x12 M12 => ?_)
    exact xZ.retf (me := xm1000) hP_1000 rfl rfl
  refine xZ.cs (fun h8 => ?_) (fun h8 => ?_)
  · refine xZ.one (pc' := 96) (lv' := [(2, .ref x3), (1, .ref x1), (0, .ref v0)]) (st' := []) (me := xm1000) hP_1000 rfl (by rw [h8]; rfl) ?_
    refine xZ.adv (me := xm1000) hP_1000 2 (pc' := 98) (lv' := [(2, .ref x3), (1, .ref x1), (0, .ref v0)]) (st' := [.ref x1, .ref x3]) rfl ?_
    refine xZ.calls (κ := oI) (av := [.ref x3, .ref x1]) (rest := []) (st' := fun x13 => [.int x13]) (me := xm1000) hP_1000 rfl rfl rfl (Nat.le_of_ble_eq_true rfl) (by decide) hP_203 (Nat.le_of_ble_eq_true rfl) (fun _ => rfl) (k_f_Law_isPlanned O f (d + 0) x3 x1 M5) (fun x13 M13 => ?_)
    exact xZ.retf (me := xm1000) hP_1000 rfl rfl
  refine xZ.cs (fun h9 => ?_) (fun h9 => ?_)
  · refine xZ.one (pc' := 102) (lv' := [(2, .ref x3), (1, .ref x1), (0, .ref v0)]) (st' := []) (me := xm1000) hP_1000 rfl (by rw [h9]; rfl) ?_
    refine xZ.adv (me := xm1000) hP_1000 2 (pc' := 104) (lv' := [(2, .ref x3), (1, .ref x1), (0, .ref v0)]) (st' := [.ref x1, .ref x3]) rfl ?_
    refine xZ.calls (κ := oI) (av := [.ref x3, .ref x1]) (rest := []) (st' := fun x14 => [.int x14]) (me := xm1000) hP_1000 rfl rfl rfl (Nat.le_of_ble_eq_true rfl) (by decide) hP_220 (Nat.le_of_ble_eq_true rfl) (fun _ => rfl) (k_f_Law_areRung O f (d + 60) x3 x1 M5) (fun x14 M14 => ?_)
    exact xZ.retf (me := xm1000) hP_1000 rfl rfl
  refine xZ.tsw (pc' := 108) (me := xm1000) hP_1000 rfl (xsw_out x5 (by decide) [(0 : Int32), (1 : Int32), (2 : Int32), (3 : Int32), (4 : Int32), (5 : Int32), (6 : Int32), (7 : Int32), (8 : Int32)] (by decide) ⟨h1, h2, h3, h4, h5, h6, h7, h8, h9, trivial⟩) rfl rfl ?_
  refine xZ.adv (me := xm1000) hP_1000 2 (pc' := 110) (lv' := [(2, .ref x3), (1, .ref x1), (0, .ref v0)]) (st' := [.ref x1, .ref x3]) rfl ?_
  refine xZ.calls (κ := oI) (av := [.ref x3, .ref x1]) (rest := []) (st' := fun x15 => [.int x15]) (me := xm1000) hP_1000 rfl rfl rfl (Nat.le_of_ble_eq_true rfl) (by decide) hP_236 (Nat.le_of_ble_eq_true rfl) (fun _ => rfl) (k_f_Law_areAlike O f (d + 3) x3 x1 M5) (fun x15 M15 => ?_)
  exact xZ.retf (me := xm1000) hP_1000 rfl rfl
