/-! ===== texts ===== -/
def f_Calendarhall_personNumbered (O : Nat → Option va_E) (f : Nat) (v0 : Nat) (v1 : Int32) (M : xM) : Option (Nat × xM) :=
  if v1 < 0 then (
    none
  ) else
  if v1 < (8 : Int32) then (
    (gR O M v0 12 0).bind fun x1 =>
    (isO O M x1 4).bind fun _ =>
    xcl (f_Hall_anyPerson O f x1 v1 M) fun x2 M1 =>
    some (x2, M1)
  ) else
  none
set_option maxRecDepth 20000 in
theorem k_f_Calendarhall_personNumbered (O : Nat → Option va_E) (f d : Nat) (v0 : Nat) (v1 : Int32) (M : xM) : xZ oR O (d + 1) 148 0 [(0, .ref v0), (1, .int v1)] [] M (f_Calendarhall_personNumbered O f v0 v1 M) := by
  unfold f_Calendarhall_personNumbered
  refine xZ.adv (me := xm148) hP_148 1 (pc' := 1) (lv' := [(0, .ref v0), (1, .int v1)]) (st' := [.int v1]) rfl ?_
  refine xZ.if_lt (me := xm148) hP_148 rfl (fun h1 => ?_) (fun h1 => ?_)
  · skip
    exact xZ.no
  · skip
    refine xZ.adv (me := xm148) hP_148 2 (pc' := 7) (lv' := [(0, .ref v0), (1, .int v1)]) (st' := [.int (8 : Int32), .int v1]) rfl ?_
    refine xZ.ic_lt (me := xm148) hP_148 rfl (fun h2 => ?_) (fun h2 => ?_)
    · skip
      refine xZ.adv (me := xm148) hP_148 1 (pc' := 19) (lv' := [(0, .ref v0), (1, .int v1)]) (st' := [.ref v0]) rfl ?_
      refine xZ.k_gR (me := xm148) hP_148 rfl (fun x1 => ?_)
      refine xZ.adv (me := xm148) hP_148 1 (pc' := 23) (lv' := [(0, .ref v0), (1, .int v1)]) (st' := [.int v1, .ref x1]) rfl ?_
      refine xZ.callv (κ := oR) (av := [.int v1]) (rest := []) (st' := fun x2 => [.ref x2]) (k0 := x1) (me := xm148) hP_148 rfl (Or.inl rfl) ⟨rfl, by decide⟩ rfl rfl (Nat.le_of_ble_eq_true rfl) (by decide) hP_26 (Nat.le_of_ble_eq_true rfl) (fun _ => rfl) (k_f_Hall_anyPerson O f (d + 0) x1 v1 M) (fun x2 M1 => ?_)
      exact xZ.retr (me := xm148) hP_148 rfl rfl rfl
    · skip
      exact xZ.no
def f_Series_isInvited (O : Nat → Option va_E) (f : Nat) (v0 : Nat) (v1 : Int32) (M : xM) : Option (Int32 × xM) :=
  (gI O M v0 10 4).bind fun x1 =>
  if ((x1 >>> (v1 &&& 31)) &&& (1 : Int32)) = (1 : Int32) then (
    some ((1 : Int32), M)
  ) else
  some ((0 : Int32), M)
set_option maxRecDepth 20000 in
theorem k_f_Series_isInvited (O : Nat → Option va_E) (f d : Nat) (v0 : Nat) (v1 : Int32) (M : xM) : xZ oI O (d + 0) 149 0 [(0, .ref v0), (1, .int v1)] [] M (f_Series_isInvited O f v0 v1 M) := by
  unfold f_Series_isInvited
  refine xZ.adv (me := xm149) hP_149 1 (pc' := 1) (lv' := [(0, .ref v0), (1, .int v1)]) (st' := [.ref v0]) rfl ?_
  refine xZ.k_gI (me := xm149) hP_149 rfl (fun x1 => ?_)
  refine xZ.adv (me := xm149) hP_149 5 (pc' := 9) (lv' := [(0, .ref v0), (1, .int v1)]) (st' := [.int (1 : Int32), .int ((x1 >>> (v1 &&& 31)) &&& (1 : Int32))]) rfl ?_
  refine xZ.ic_ne (me := xm149) hP_149 rfl (fun h1 => ?_) (fun h1 => ?_)
  · skip
    refine xZ.adv (me := xm149) hP_149 2 (pc' := 17) (lv' := [(0, .ref v0), (1, .int v1)]) (st' := [.int (1 : Int32)]) rfl ?_
    exact xZ.rete (me := xm149) hP_149 rfl rfl rfl
  · skip
    refine xZ.adv (me := xm149) hP_149 1 (pc' := 17) (lv' := [(0, .ref v0), (1, .int v1)]) (st' := [.int (0 : Int32)]) rfl ?_
    exact xZ.rete (me := xm149) hP_149 rfl rfl rfl
def f_Series_answerBy (O : Nat → Option va_E) (f : Nat) (v0 : Nat) (v1 : Int32) (M : xM) : Option (Int32 × xM) :=
  if v1 < 0 then (
    some ((0 : Int32), M)
  ) else
  (gR O M v0 10 10).bind fun x1 =>
  (aN O M x1).bind fun x2 =>
  if x2 ≤ v1 then (
    some ((0 : Int32), M)
  ) else
  (gR O M v0 10 10).bind fun x3 =>
  (aI O M x3 v1).bind fun x4 =>
  some (x4, M)
set_option maxRecDepth 20000 in
theorem k_f_Series_answerBy (O : Nat → Option va_E) (f d : Nat) (v0 : Nat) (v1 : Int32) (M : xM) : xZ oI O (d + 0) 150 0 [(0, .ref v0), (1, .int v1)] [] M (f_Series_answerBy O f v0 v1 M) := by
  unfold f_Series_answerBy
  refine xZ.adv (me := xm150) hP_150 1 (pc' := 1) (lv' := [(0, .ref v0), (1, .int v1)]) (st' := [.int v1]) rfl ?_
  refine xZ.if_lt (me := xm150) hP_150 rfl (fun h1 => ?_) (fun h1 => ?_)
  · skip
    refine xZ.adv (me := xm150) hP_150 1 (pc' := 23) (lv' := [(0, .ref v0), (1, .int v1)]) (st' := [.int (0 : Int32)]) rfl ?_
    exact xZ.reti (me := xm150) hP_150 rfl rfl
  · skip
    refine xZ.adv (me := xm150) hP_150 2 (pc' := 6) (lv' := [(0, .ref v0), (1, .int v1)]) (st' := [.ref v0, .int v1]) rfl ?_
    refine xZ.k_gR (me := xm150) hP_150 rfl (fun x1 => ?_)
    refine xZ.k_aN (me := xm150) hP_150 rfl (fun x2 => ?_)
    refine xZ.ic_ge (me := xm150) hP_150 rfl (fun h2 => ?_) (fun h2 => ?_)
    · skip
      refine xZ.adv (me := xm150) hP_150 1 (pc' := 23) (lv' := [(0, .ref v0), (1, .int v1)]) (st' := [.int (0 : Int32)]) rfl ?_
      exact xZ.reti (me := xm150) hP_150 rfl rfl
    · skip
      refine xZ.adv (me := xm150) hP_150 1 (pc' := 14) (lv' := [(0, .ref v0), (1, .int v1)]) (st' := [.ref v0]) rfl ?_
      refine xZ.k_gR (me := xm150) hP_150 rfl (fun x3 => ?_)
      refine xZ.adv (me := xm150) hP_150 1 (pc' := 18) (lv' := [(0, .ref v0), (1, .int v1)]) (st' := [.int v1, .ref x3]) rfl ?_
      refine xZ.k_aI (me := xm150) hP_150 rfl (fun x4 => ?_)
      refine xZ.adv (me := xm150) hP_150 1 (pc' := 23) (lv' := [(0, .ref v0), (1, .int v1)]) (st' := [.int x4]) rfl ?_
      exact xZ.reti (me := xm150) hP_150 rfl rfl
def f_Calendarhall_answer (O : Nat → Option va_E) (f : Nat) (v0 : Nat) (v1 : Int32) (v2 : Int32) (v3 : Int32) (M : xM) : Option (Int32 × xM) :=
  (isO O M v0 12).bind fun _ =>
  xcl (f_Calendarhall_seriesNumbered O f v0 v1 M) fun x1 M1 =>
  (isO O M1 v0 12).bind fun _ =>
  xcl (f_Calendarhall_personNumbered O f v0 v2 M1) fun x2 M2 =>
  (isO O M2 x1 10).bind fun _ =>
  xcl (f_Series_isInvited O f x1 v2 M2) fun x3 M3 =>
  if x3 = 0 then (
    none
  ) else
  xcl (f_Calendarhall_needRange O f v3 (0 : Int32) (3 : Int32) M3) fun _ M4 =>
  (isO O M4 x1 10).bind fun _ =>
  xcl (f_Series_answerBy O f x1 v2 M4) fun x5 M5 =>
  (isO O M5 v0 12).bind fun _ =>
  xcl (f_Calendarhall_saveForUndo O f v0 M5) fun _ M6 =>
  (isO O M6 x1 10).bind fun _ =>
  xcl (f_Series_putAnswer O f x1 v2 v3 M6) fun _ M7 =>
  some (x5, M7)
set_option maxRecDepth 20000 in
theorem k_f_Calendarhall_answer (O : Nat → Option va_E) (f d : Nat) (v0 : Nat) (v1 : Int32) (v2 : Int32) (v3 : Int32) (M : xM) : xZ oI O (d + 5) 147 0 [(0, .ref v0), (1, .int v1), (2, .int v2), (3, .int v3)] [] M (f_Calendarhall_answer O f v0 v1 v2 v3 M) := by
  unfold f_Calendarhall_answer
  refine xZ.adv (me := xm147) hP_147 2 (pc' := 2) (lv' := [(0, .ref v0), (1, .int v1), (2, .int v2), (3, .int v3)]) (st' := [.int v1, .ref v0]) rfl ?_
  refine xZ.callv (κ := oR) (av := [.int v1]) (rest := []) (st' := fun x1 => [.ref x1]) (k0 := v0) (me := xm147) hP_147 rfl (Or.inl rfl) ⟨rfl, by decide⟩ rfl rfl (Nat.le_of_ble_eq_true rfl) (by decide) hP_79 (Nat.le_of_ble_eq_true rfl) (fun _ => rfl) (k_f_Calendarhall_seriesNumbered O f (d + 3) v0 v1 M) (fun x1 M1 => ?_)
  refine xZ.adv (me := xm147) hP_147 3 (pc' := 9) (lv' := [(4, .ref x1), (0, .ref v0), (1, .int v1), (2, .int v2), (3, .int v3)]) (st' := [.int v2, .ref v0]) rfl ?_
  refine xZ.callv (κ := oR) (av := [.int v2]) (rest := []) (st' := fun x2 => [.ref x2]) (k0 := v0) (me := xm147) hP_147 rfl (Or.inl rfl) ⟨rfl, by decide⟩ rfl rfl (Nat.le_of_ble_eq_true rfl) (by decide) hP_148 (Nat.le_of_ble_eq_true rfl) (fun _ => rfl) (k_f_Calendarhall_personNumbered O f (d + 3) v0 v2 M1) (fun x2 M2 => ?_)
  refine xZ.adv (me := xm147) hP_147 3 (pc' := 16) (lv' := [(4, .ref x1), (0, .ref v0), (1, .int v1), (2, .int v2), (3, .int v3)]) (st' := [.int v2, .ref x1]) rfl ?_
  refine xZ.callv (κ := oI) (av := [.int v2]) (rest := []) (st' := fun x3 => [.int x3]) (k0 := x1) (me := xm147) hP_147 rfl (Or.inl rfl) ⟨rfl, by decide⟩ rfl rfl (Nat.le_of_ble_eq_true rfl) (by decide) hP_149 (Nat.le_of_ble_eq_true rfl) (fun _ => rfl) (k_f_Series_isInvited O f (d + 4) x1 v2 M2) (fun x3 M3 => ?_)
  refine xZ.if_ne (me := xm147) hP_147 rfl (fun h1 => ?_) (fun h1 => ?_)
  · skip
    exact xZ.no
  · skip
    refine xZ.adv (me := xm147) hP_147 3 (pc' := 33) (lv' := [(4, .ref x1), (0, .ref v0), (1, .int v1), (2, .int v2), (3, .int v3)]) (st' := [.int (3 : Int32), .int (0 : Int32), .int v3]) rfl ?_
    refine xZ.calls (κ := oU) (av := [.int v3, .int (0 : Int32), .int (3 : Int32)]) (rest := []) (st' := fun _ => []) (me := xm147) hP_147 rfl rfl rfl (Nat.le_of_ble_eq_true rfl) (by decide) hP_22 (Nat.le_of_ble_eq_true rfl) (fun _ => rfl) (k_f_Calendarhall_needRange O f (d + 4) v3 (0 : Int32) (3 : Int32) M3) (fun _ M4 => ?_)
    refine xZ.adv (me := xm147) hP_147 2 (pc' := 39) (lv' := [(4, .ref x1), (0, .ref v0), (1, .int v1), (2, .int v2), (3, .int v3)]) (st' := [.int v2, .ref x1]) rfl ?_
    refine xZ.callv (κ := oI) (av := [.int v2]) (rest := []) (st' := fun x5 => [.int x5]) (k0 := x1) (me := xm147) hP_147 rfl (Or.inl rfl) ⟨rfl, by decide⟩ rfl rfl (Nat.le_of_ble_eq_true rfl) (by decide) hP_150 (Nat.le_of_ble_eq_true rfl) (fun _ => rfl) (k_f_Series_answerBy O f (d + 4) x1 v2 M4) (fun x5 M5 => ?_)
    refine xZ.adv (me := xm147) hP_147 2 (pc' := 45) (lv' := [(5, .int x5), (4, .ref x1), (0, .ref v0), (1, .int v1), (2, .int v2), (3, .int v3)]) (st' := [.ref v0]) rfl ?_
    refine xZ.callv (κ := oU) (av := []) (rest := []) (st' := fun _ => []) (k0 := v0) (me := xm147) hP_147 rfl (Or.inl rfl) ⟨rfl, by decide⟩ rfl rfl (Nat.le_of_ble_eq_true rfl) (by decide) hP_23 (Nat.le_of_ble_eq_true rfl) (fun _ => rfl) (k_f_Calendarhall_saveForUndo O f (d + 0) v0 M5) (fun _ M6 => ?_)
    refine xZ.adv (me := xm147) hP_147 3 (pc' := 52) (lv' := [(5, .int x5), (4, .ref x1), (0, .ref v0), (1, .int v1), (2, .int v2), (3, .int v3)]) (st' := [.int v3, .int v2, .ref x1]) rfl ?_
    refine xZ.callv (κ := oU) (av := [.int v2, .int v3]) (rest := []) (st' := fun _ => []) (k0 := x1) (me := xm147) hP_147 rfl (Or.inl rfl) ⟨rfl, by decide⟩ rfl rfl (Nat.le_of_ble_eq_true rfl) (by decide) hP_41 (Nat.le_of_ble_eq_true rfl) (fun _ => rfl) (k_f_Series_putAnswer O f (d + 4) x1 v2 v3 M6) (fun _ M7 => ?_)
    refine xZ.adv (me := xm147) hP_147 1 (pc' := 57) (lv' := [(5, .int x5), (4, .ref x1), (0, .ref v0), (1, .int v1), (2, .int v2), (3, .int v3)]) (st' := [.int x5]) rfl ?_
    exact xZ.reti (me := xm147) hP_147 rfl rfl
def f_Law_series_161 (O : Nat → Option va_E) (f : Nat) (K3 : Nat → Nat → Int32 → Int32 → Int32 → Int32 → xM → Option (Int32 × xM)) : Nat → Nat → Nat → Int32 → Int32 → Int32 → Int32 → Int32 → xM → Option (Int32 × xM)
  | 0, _, _, _, _, _, _, _, _ => none
  | n + 1, v0, v1, v2, v3, v4, v5, v6, M =>
    if v3 ≤ v6 then (
      (isO O M v1 15).bind fun _ =>
      xcl (f_LDraw_is O f v1 (4 : Int32) M) fun x1 M1 =>
      if x1 = 0 then (
        K3 v0 v1 v2 v3 v4 (v5 + (1 : Int32)) M1
      ) else
      (isO O M1 v0 12).bind fun _ =>
      xcl (f_Calendarhall_nextDay O f v0 v5 (10 : Int32) M1) fun x2 M2 =>
      (isO O M2 v1 15).bind fun _ =>
      xcl (f_LDraw_n O f v1 (5 : Int32) M2) fun x3 M3 =>
      (isO O M3 v1 15).bind fun _ =>
      xcl (f_LDraw_n O f v1 (1440 : Int32) M3) fun x4 M4 =>
      (isO O M4 v0 12).bind fun _ =>
      xcl (f_Calendarhall_move O f v0 v5 x2 (v4 + x3) x4 M4) fun x5 M5 =>
      K3 v0 v1 v2 v3 v4 (v5 + (1 : Int32)) M5
    ) else
    (isO O M v0 12).bind fun _ =>
    xcl (f_Calendarhall_seriesAt O f v0 v5 (4 : Int32) M) fun x6 M6 =>
    if ((x6 >>> (v6 &&& 31)) &&& (1 : Int32)) = (1 : Int32) then (
      (isO O M6 v1 15).bind fun _ =>
      xcl (f_LDraw_is O f v1 (3 : Int32) M6) fun x7 M7 =>
      if x7 = 0 then (
        f_Law_series_161 O f K3 n v0 v1 v2 v3 v4 v5 (v6 + (1 : Int32)) M7
      ) else
      (isO O M7 v1 15).bind fun _ =>
      xcl (f_LDraw_n O f v1 (4 : Int32) M7) fun x8 M8 =>
      (isO O M8 v0 12).bind fun _ =>
      xcl (f_Calendarhall_answer O f v0 v5 v6 x8 M8) fun x9 M9 =>
      f_Law_series_161 O f K3 n v0 v1 v2 v3 v4 v5 (v6 + (1 : Int32)) M9
    ) else
    f_Law_series_161 O f K3 n v0 v1 v2 v3 v4 v5 (v6 + (1 : Int32)) M6
set_option maxRecDepth 20000 in
theorem k_f_Law_series_161 (O : Nat → Option va_E) (f d : Nat) (K3 : Nat → Nat → Int32 → Int32 → Int32 → Int32 → xM → Option (Int32 × xM)) (hK3 : ∀ (v0 : Nat) (v1 : Nat) (v2 : Int32) (v3 : Int32) (v4 : Int32) (v5 : Int32) M, xZ oI O (d + 8) 146 3 [(0, .ref v0), (1, .ref v1), (2, .int v2), (3, .int v3), (4, .int v4), (5, .int v5)] [] M (K3 v0 v1 v2 v3 v4 v5 M)) : ∀ (n : Nat) (v0 : Nat) (v1 : Nat) (v2 : Int32) (v3 : Int32) (v4 : Int32) (v5 : Int32) (v6 : Int32) (M : xM), xZ oI O (d + 8) 146 161 [(0, .ref v0), (1, .ref v1), (2, .int v2), (3, .int v3), (4, .int v4), (5, .int v5), (6, .int v6)] [] M (f_Law_series_161 O f K3 n v0 v1 v2 v3 v4 v5 v6 M) := by
  intro n
  induction n with
  | zero =>
    intro v0 v1 v2 v3 v4 v5 v6 M
    exact xZ.no
  | succ n ih =>
    intro v0 v1 v2 v3 v4 v5 v6 M
    unfold f_Law_series_161
    refine xZ.adv (me := xm146) hP_146 2 (pc' := 164) (lv' := [(0, .ref v0), (1, .ref v1), (2, .int v2), (3, .int v3), (4, .int v4), (5, .int v5), (6, .int v6)]) (st' := [.int v3, .int v6]) rfl ?_
    refine xZ.ic_ge (me := xm146) hP_146 rfl (fun h1 => ?_) (fun h1 => ?_)
    · skip
      refine xZ.adv (me := xm146) hP_146 2 (pc' := 213) (lv' := [(0, .ref v0), (1, .ref v1), (2, .int v2), (3, .int v3), (4, .int v4), (5, .int v5), (6, .int v6)]) (st' := [.int (4 : Int32), .ref v1]) rfl ?_
      refine xZ.callv (κ := oI) (av := [.int (4 : Int32)]) (rest := []) (st' := fun x1 => [.int x1]) (k0 := v1) (me := xm146) hP_146 rfl (Or.inl rfl) ⟨rfl, by decide⟩ rfl rfl (Nat.le_of_ble_eq_true rfl) (by decide) hP_18 (Nat.le_of_ble_eq_true rfl) (fun _ => rfl) (k_f_LDraw_is O f (d + 6) v1 (4 : Int32) M) (fun x1 M1 => ?_)
      refine xZ.if_eq (me := xm146) hP_146 rfl (fun h2 => ?_) (fun h2 => ?_)
      · skip
        refine xZ.adv (me := xm146) hP_146 2 (pc' := 3) (lv' := [(5, .int (v5 + (1 : Int32))), (0, .ref v0), (1, .ref v1), (2, .int v2), (3, .int v3), (4, .int v4), (6, .int v6)]) (st' := []) rfl ?_
        exact xZ.sub (xsc (.tail _ (.head _)) (xsc (.tail _ (.tail _ (.head _))) (xsc (.tail _ (.tail _ (.tail _ (.head _)))) (xsc (.tail _ (.tail _ (.tail _ (.tail _ (.head _))))) (xsc (.tail _ (.tail _ (.tail _ (.tail _ (.tail _ (.head _)))))) (xsc (.head _) xsn)))))) (show ([5, 0, 1, 2, 3, 4, 6] : List Nat).Nodup from by decide) (hK3 v0 v1 v2 v3 v4 (v5 + (1 : Int32)) M1)
      · skip
        refine xZ.adv (me := xm146) hP_146 5 (pc' := 227) (lv' := [(0, .ref v0), (1, .ref v1), (2, .int v2), (3, .int v3), (4, .int v4), (5, .int v5), (6, .int v6)]) (st' := [.int (10 : Int32), .int v5, .ref v0, .int v5, .ref v0]) rfl ?_
        refine xZ.callv (κ := oI) (av := [.int v5, .int (10 : Int32)]) (rest := [.int v5, .ref v0]) (st' := fun x2 => [.int x2, .int v5, .ref v0]) (k0 := v0) (me := xm146) hP_146 rfl (Or.inl rfl) ⟨rfl, by decide⟩ rfl rfl (Nat.le_of_ble_eq_true rfl) (by decide) hP_91 (Nat.le_of_ble_eq_true rfl) (fun _ => rfl) (k_f_Calendarhall_nextDay O f (d + 2) v0 v5 (10 : Int32) M1) (fun x2 M2 => ?_)
        refine xZ.adv (me := xm146) hP_146 3 (pc' := 234) (lv' := [(0, .ref v0), (1, .ref v1), (2, .int v2), (3, .int v3), (4, .int v4), (5, .int v5), (6, .int v6)]) (st' := [.int (5 : Int32), .ref v1, .int v4, .int x2, .int v5, .ref v0]) rfl ?_
        refine xZ.callv (κ := oI) (av := [.int (5 : Int32)]) (rest := [.int v4, .int x2, .int v5, .ref v0]) (st' := fun x3 => [.int x3, .int v4, .int x2, .int v5, .ref v0]) (k0 := v1) (me := xm146) hP_146 rfl (Or.inl rfl) ⟨rfl, by decide⟩ rfl rfl (Nat.le_of_ble_eq_true rfl) (by decide) hP_12 (Nat.le_of_ble_eq_true rfl) (fun _ => rfl) (k_f_LDraw_n O f (d + 7) v1 (5 : Int32) M2) (fun x3 M3 => ?_)
        refine xZ.adv (me := xm146) hP_146 3 (pc' := 242) (lv' := [(0, .ref v0), (1, .ref v1), (2, .int v2), (3, .int v3), (4, .int v4), (5, .int v5), (6, .int v6)]) (st' := [.int (1440 : Int32), .ref v1, .int (v4 + x3), .int x2, .int v5, .ref v0]) rfl ?_
        refine xZ.callv (κ := oI) (av := [.int (1440 : Int32)]) (rest := [.int (v4 + x3), .int x2, .int v5, .ref v0]) (st' := fun x4 => [.int x4, .int (v4 + x3), .int x2, .int v5, .ref v0]) (k0 := v1) (me := xm146) hP_146 rfl (Or.inl rfl) ⟨rfl, by decide⟩ rfl rfl (Nat.le_of_ble_eq_true rfl) (by decide) hP_12 (Nat.le_of_ble_eq_true rfl) (fun _ => rfl) (k_f_LDraw_n O f (d + 7) v1 (1440 : Int32) M3) (fun x4 M4 => ?_)
        refine xZ.callv (κ := oI) (av := [.int v5, .int x2, .int (v4 + x3), .int x4]) (rest := []) (st' := fun x5 => [.int x5]) (k0 := v0) (me := xm146) hP_146 rfl (Or.inl rfl) ⟨rfl, by decide⟩ rfl rfl (Nat.le_of_ble_eq_true rfl) (by decide) hP_112 (Nat.le_of_ble_eq_true rfl) (fun _ => rfl) (k_f_Calendarhall_move O f (d + 2) v0 v5 x2 (v4 + x3) x4 M4) (fun x5 M5 => ?_)
        refine xZ.adv (me := xm146) hP_146 3 (pc' := 3) (lv' := [(5, .int (v5 + (1 : Int32))), (0, .ref v0), (1, .ref v1), (2, .int v2), (3, .int v3), (4, .int v4), (6, .int v6)]) (st' := []) rfl ?_
        exact xZ.sub (xsc (.tail _ (.head _)) (xsc (.tail _ (.tail _ (.head _))) (xsc (.tail _ (.tail _ (.tail _ (.head _)))) (xsc (.tail _ (.tail _ (.tail _ (.tail _ (.head _))))) (xsc (.tail _ (.tail _ (.tail _ (.tail _ (.tail _ (.head _)))))) (xsc (.head _) xsn)))))) (show ([5, 0, 1, 2, 3, 4, 6] : List Nat).Nodup from by decide) (hK3 v0 v1 v2 v3 v4 (v5 + (1 : Int32)) M5)
    · skip
      refine xZ.adv (me := xm146) hP_146 3 (pc' := 171) (lv' := [(0, .ref v0), (1, .ref v1), (2, .int v2), (3, .int v3), (4, .int v4), (5, .int v5), (6, .int v6)]) (st' := [.int (4 : Int32), .int v5, .ref v0]) rfl ?_
      refine xZ.callv (κ := oI) (av := [.int v5, .int (4 : Int32)]) (rest := []) (st' := fun x6 => [.int x6]) (k0 := v0) (me := xm146) hP_146 rfl (Or.inl rfl) ⟨rfl, by decide⟩ rfl rfl (Nat.le_of_ble_eq_true rfl) (by decide) hP_126 (Nat.le_of_ble_eq_true rfl) (fun _ => rfl) (k_f_Calendarhall_seriesAt O f (d + 5) v0 v5 (4 : Int32) M) (fun x6 M6 => ?_)
      refine xZ.adv (me := xm146) hP_146 5 (pc' := 180) (lv' := [(0, .ref v0), (1, .ref v1), (2, .int v2), (3, .int v3), (4, .int v4), (5, .int v5), (6, .int v6)]) (st' := [.int (1 : Int32), .int ((x6 >>> (v6 &&& 31)) &&& (1 : Int32))]) rfl ?_
      refine xZ.ic_ne (me := xm146) hP_146 rfl (fun h3 => ?_) (fun h3 => ?_)
      · skip
        refine xZ.adv (me := xm146) hP_146 2 (pc' := 185) (lv' := [(0, .ref v0), (1, .ref v1), (2, .int v2), (3, .int v3), (4, .int v4), (5, .int v5), (6, .int v6)]) (st' := [.int (3 : Int32), .ref v1]) rfl ?_
        refine xZ.callv (κ := oI) (av := [.int (3 : Int32)]) (rest := []) (st' := fun x7 => [.int x7]) (k0 := v1) (me := xm146) hP_146 rfl (Or.inl rfl) ⟨rfl, by decide⟩ rfl rfl (Nat.le_of_ble_eq_true rfl) (by decide) hP_18 (Nat.le_of_ble_eq_true rfl) (fun _ => rfl) (k_f_LDraw_is O f (d + 6) v1 (3 : Int32) M6) (fun x7 M7 => ?_)
        refine xZ.if_eq (me := xm146) hP_146 rfl (fun h4 => ?_) (fun h4 => ?_)
        · skip
          refine xZ.adv (me := xm146) hP_146 2 (pc' := 161) (lv' := [(6, .int (v6 + (1 : Int32))), (0, .ref v0), (1, .ref v1), (2, .int v2), (3, .int v3), (4, .int v4), (5, .int v5)]) (st' := []) rfl ?_
          exact xZ.sub (xsc (.tail _ (.head _)) (xsc (.tail _ (.tail _ (.head _))) (xsc (.tail _ (.tail _ (.tail _ (.head _)))) (xsc (.tail _ (.tail _ (.tail _ (.tail _ (.head _))))) (xsc (.tail _ (.tail _ (.tail _ (.tail _ (.tail _ (.head _)))))) (xsc (.tail _ (.tail _ (.tail _ (.tail _ (.tail _ (.tail _ (.head _))))))) (xsc (.head _) xsn))))))) (show ([6, 0, 1, 2, 3, 4, 5] : List Nat).Nodup from by decide) (ih v0 v1 v2 v3 v4 v5 (v6 + (1 : Int32)) M7)
        · skip
          refine xZ.adv (me := xm146) hP_146 5 (pc' := 198) (lv' := [(0, .ref v0), (1, .ref v1), (2, .int v2), (3, .int v3), (4, .int v4), (5, .int v5), (6, .int v6)]) (st' := [.int (4 : Int32), .ref v1, .int v6, .int v5, .ref v0]) rfl ?_
          refine xZ.callv (κ := oI) (av := [.int (4 : Int32)]) (rest := [.int v6, .int v5, .ref v0]) (st' := fun x8 => [.int x8, .int v6, .int v5, .ref v0]) (k0 := v1) (me := xm146) hP_146 rfl (Or.inl rfl) ⟨rfl, by decide⟩ rfl rfl (Nat.le_of_ble_eq_true rfl) (by decide) hP_12 (Nat.le_of_ble_eq_true rfl) (fun _ => rfl) (k_f_LDraw_n O f (d + 7) v1 (4 : Int32) M7) (fun x8 M8 => ?_)
          refine xZ.callv (κ := oI) (av := [.int v5, .int v6, .int x8]) (rest := []) (st' := fun x9 => [.int x9]) (k0 := v0) (me := xm146) hP_146 rfl (Or.inl rfl) ⟨rfl, by decide⟩ rfl rfl (Nat.le_of_ble_eq_true rfl) (by decide) hP_147 (Nat.le_of_ble_eq_true rfl) (fun _ => rfl) (k_f_Calendarhall_answer O f (d + 2) v0 v5 v6 x8 M8) (fun x9 M9 => ?_)
          refine xZ.adv (me := xm146) hP_146 3 (pc' := 161) (lv' := [(6, .int (v6 + (1 : Int32))), (0, .ref v0), (1, .ref v1), (2, .int v2), (3, .int v3), (4, .int v4), (5, .int v5)]) (st' := []) rfl ?_
          exact xZ.sub (xsc (.tail _ (.head _)) (xsc (.tail _ (.tail _ (.head _))) (xsc (.tail _ (.tail _ (.tail _ (.head _)))) (xsc (.tail _ (.tail _ (.tail _ (.tail _ (.head _))))) (xsc (.tail _ (.tail _ (.tail _ (.tail _ (.tail _ (.head _)))))) (xsc (.tail _ (.tail _ (.tail _ (.tail _ (.tail _ (.tail _ (.head _))))))) (xsc (.head _) xsn))))))) (show ([6, 0, 1, 2, 3, 4, 5] : List Nat).Nodup from by decide) (ih v0 v1 v2 v3 v4 v5 (v6 + (1 : Int32)) M9)
      · skip
        refine xZ.adv (me := xm146) hP_146 2 (pc' := 161) (lv' := [(6, .int (v6 + (1 : Int32))), (0, .ref v0), (1, .ref v1), (2, .int v2), (3, .int v3), (4, .int v4), (5, .int v5)]) (st' := []) rfl ?_
        exact xZ.sub (xsc (.tail _ (.head _)) (xsc (.tail _ (.tail _ (.head _))) (xsc (.tail _ (.tail _ (.tail _ (.head _)))) (xsc (.tail _ (.tail _ (.tail _ (.tail _ (.head _))))) (xsc (.tail _ (.tail _ (.tail _ (.tail _ (.tail _ (.head _)))))) (xsc (.tail _ (.tail _ (.tail _ (.tail _ (.tail _ (.tail _ (.head _))))))) (xsc (.head _) xsn))))))) (show ([6, 0, 1, 2, 3, 4, 5] : List Nat).Nodup from by decide) (ih v0 v1 v2 v3 v4 v5 (v6 + (1 : Int32)) M6)
def f_Law_series_158 (O : Nat → Option va_E) (f : Nat) (K3 : Nat → Nat → Int32 → Int32 → Int32 → Int32 → xM → Option (Int32 × xM)) (v0 : Nat) (v1 : Nat) (v2 : Int32) (v3 : Int32) (v4 : Int32) (v5 : Int32) (M : xM) : Option (Int32 × xM) :=
  f_Law_series_161 O f K3 f v0 v1 v2 v3 v4 v5 (0 : Int32) M
set_option maxRecDepth 20000 in
theorem k_f_Law_series_158 (O : Nat → Option va_E) (f d : Nat) (K3 : Nat → Nat → Int32 → Int32 → Int32 → Int32 → xM → Option (Int32 × xM)) (hK3 : ∀ (v0 : Nat) (v1 : Nat) (v2 : Int32) (v3 : Int32) (v4 : Int32) (v5 : Int32) M, xZ oI O (d + 8) 146 3 [(0, .ref v0), (1, .ref v1), (2, .int v2), (3, .int v3), (4, .int v4), (5, .int v5)] [] M (K3 v0 v1 v2 v3 v4 v5 M)) (v0 : Nat) (v1 : Nat) (v2 : Int32) (v3 : Int32) (v4 : Int32) (v5 : Int32) (M : xM) : xZ oI O (d + 8) 146 158 [(0, .ref v0), (1, .ref v1), (2, .int v2), (3, .int v3), (4, .int v4), (5, .int v5)] [] M (f_Law_series_158 O f K3 v0 v1 v2 v3 v4 v5 M) := by
  unfold f_Law_series_158
  refine xZ.adv (me := xm146) hP_146 2 (pc' := 161) (lv' := [(6, .int (0 : Int32)), (0, .ref v0), (1, .ref v1), (2, .int v2), (3, .int v3), (4, .int v4), (5, .int v5)]) (st' := []) rfl ?_
  exact xZ.sub (xsc (.tail _ (.head _)) (xsc (.tail _ (.tail _ (.head _))) (xsc (.tail _ (.tail _ (.tail _ (.head _)))) (xsc (.tail _ (.tail _ (.tail _ (.tail _ (.head _))))) (xsc (.tail _ (.tail _ (.tail _ (.tail _ (.tail _ (.head _)))))) (xsc (.tail _ (.tail _ (.tail _ (.tail _ (.tail _ (.tail _ (.head _))))))) (xsc (.head _) xsn))))))) (show ([6, 0, 1, 2, 3, 4, 5] : List Nat).Nodup from by decide) (k_f_Law_series_161 O f d K3 hK3 f v0 v1 v2 v3 v4 v5 (0 : Int32) M)
def f_Law_series_135 (O : Nat → Option va_E) (f : Nat) (K3 : Nat → Nat → Int32 → Int32 → Int32 → Int32 → xM → Option (Int32 × xM)) (v0 : Nat) (v1 : Nat) (v2 : Int32) (v3 : Int32) (v4 : Int32) (v5 : Int32) (M : xM) : Option (Int32 × xM) :=
  (isO O M v1 15).bind fun _ =>
  xcl (f_LDraw_is O f v1 (3 : Int32) M) fun x1 M1 =>
  if x1 = 0 then (
    f_Law_series_158 O f K3 v0 v1 v2 v3 v4 v5 M1
  ) else
  (isO O M1 v1 15).bind fun _ =>
  xcl (f_LDraw_n O f v1 (5 : Int32) M1) fun x2 M2 =>
  (isO O M2 v0 12).bind fun _ =>
  xcl (f_Calendarhall_setEnd O f v0 v5 (1 : Int32) ((1 : Int32) + x2) M2) fun x3 M3 =>
  f_Law_series_158 O f K3 v0 v1 v2 v3 v4 v5 M3
set_option maxRecDepth 20000 in
theorem k_f_Law_series_135 (O : Nat → Option va_E) (f d : Nat) (K3 : Nat → Nat → Int32 → Int32 → Int32 → Int32 → xM → Option (Int32 × xM)) (hK3 : ∀ (v0 : Nat) (v1 : Nat) (v2 : Int32) (v3 : Int32) (v4 : Int32) (v5 : Int32) M, xZ oI O (d + 8) 146 3 [(0, .ref v0), (1, .ref v1), (2, .int v2), (3, .int v3), (4, .int v4), (5, .int v5)] [] M (K3 v0 v1 v2 v3 v4 v5 M)) (v0 : Nat) (v1 : Nat) (v2 : Int32) (v3 : Int32) (v4 : Int32) (v5 : Int32) (M : xM) : xZ oI O (d + 8) 146 135 [(0, .ref v0), (1, .ref v1), (2, .int v2), (3, .int v3), (4, .int v4), (5, .int v5)] [] M (f_Law_series_135 O f K3 v0 v1 v2 v3 v4 v5 M) := by
  unfold f_Law_series_135
  refine xZ.adv (me := xm146) hP_146 2 (pc' := 137) (lv' := [(0, .ref v0), (1, .ref v1), (2, .int v2), (3, .int v3), (4, .int v4), (5, .int v5)]) (st' := [.int (3 : Int32), .ref v1]) rfl ?_
  refine xZ.callv (κ := oI) (av := [.int (3 : Int32)]) (rest := []) (st' := fun x1 => [.int x1]) (k0 := v1) (me := xm146) hP_146 rfl (Or.inl rfl) ⟨rfl, by decide⟩ rfl rfl (Nat.le_of_ble_eq_true rfl) (by decide) hP_18 (Nat.le_of_ble_eq_true rfl) (fun _ => rfl) (k_f_LDraw_is O f (d + 6) v1 (3 : Int32) M) (fun x1 M1 => ?_)
  refine xZ.if_eq (me := xm146) hP_146 rfl (fun h1 => ?_) (fun h1 => ?_)
  · skip
    exact (k_f_Law_series_158 O f d K3 hK3 v0 v1 v2 v3 v4 v5 M1)
  · skip
    refine xZ.adv (me := xm146) hP_146 6 (pc' := 150) (lv' := [(0, .ref v0), (1, .ref v1), (2, .int v2), (3, .int v3), (4, .int v4), (5, .int v5)]) (st' := [.int (5 : Int32), .ref v1, .int (1 : Int32), .int (1 : Int32), .int v5, .ref v0]) rfl ?_
    refine xZ.callv (κ := oI) (av := [.int (5 : Int32)]) (rest := [.int (1 : Int32), .int (1 : Int32), .int v5, .ref v0]) (st' := fun x2 => [.int x2, .int (1 : Int32), .int (1 : Int32), .int v5, .ref v0]) (k0 := v1) (me := xm146) hP_146 rfl (Or.inl rfl) ⟨rfl, by decide⟩ rfl rfl (Nat.le_of_ble_eq_true rfl) (by decide) hP_12 (Nat.le_of_ble_eq_true rfl) (fun _ => rfl) (k_f_LDraw_n O f (d + 7) v1 (5 : Int32) M1) (fun x2 M2 => ?_)
    refine xZ.adv (me := xm146) hP_146 1 (pc' := 154) (lv' := [(0, .ref v0), (1, .ref v1), (2, .int v2), (3, .int v3), (4, .int v4), (5, .int v5)]) (st' := [.int ((1 : Int32) + x2), .int (1 : Int32), .int v5, .ref v0]) rfl ?_
    refine xZ.callv (κ := oI) (av := [.int v5, .int (1 : Int32), .int ((1 : Int32) + x2)]) (rest := []) (st' := fun x3 => [.int x3]) (k0 := v0) (me := xm146) hP_146 rfl (Or.inl rfl) ⟨rfl, by decide⟩ rfl rfl (Nat.le_of_ble_eq_true rfl) (by decide) hP_82 (Nat.le_of_ble_eq_true rfl) (fun _ => rfl) (k_f_Calendarhall_setEnd O f (d + 0) v0 v5 (1 : Int32) ((1 : Int32) + x2) M2) (fun x3 M3 => ?_)
    refine xZ.adv (me := xm146) hP_146 1 (pc' := 158) (lv' := [(0, .ref v0), (1, .ref v1), (2, .int v2), (3, .int v3), (4, .int v4), (5, .int v5)]) (st' := []) rfl ?_
    exact (k_f_Law_series_158 O f d K3 hK3 v0 v1 v2 v3 v4 v5 M3)
def f_Law_series_106 (O : Nat → Option va_E) (f : Nat) (K3 : Nat → Nat → Int32 → Int32 → Int32 → Int32 → xM → Option (Int32 × xM)) (v0 : Nat) (v1 : Nat) (v2 : Int32) (v3 : Int32) (v4 : Int32) (v5 : Int32) (s0 : Nat) (s1 : Int32) (s2 : Int32) (s3 : Int32) (s4 : Int32) (s5 : Int32) (s6 : Int32) (M : xM) : Option (Int32 × xM) :=
  (isO O M s0 12).bind fun _ =>
  xcl (f_Calendarhall_addSeries O f s0 s1 s2 s3 s4 s5 s6 M) fun x1 M1 =>
  (isO O M1 v1 15).bind fun _ =>
  xcl (f_LDraw_is O f v1 (2 : Int32) M1) fun x2 M2 =>
  if x2 = 0 then (
    f_Law_series_135 O f K3 v0 v1 v2 v3 v4 v5 M2
  ) else
  (isO O M2 v1 15).bind fun _ =>
  xcl (f_LDraw_n O f v1 (3 : Int32) M2) fun x3 M3 =>
  (isO O M3 v0 12).bind fun _ =>
  xcl (f_Calendarhall_setRule O f v0 v5 (1 : Int32) ((1 : Int32) + x3) (0 : Int32) (0 : Int32) M3) fun x4 M4 =>
  f_Law_series_135 O f K3 v0 v1 v2 v3 v4 v5 M4
set_option maxRecDepth 20000 in
theorem k_f_Law_series_106 (O : Nat → Option va_E) (f d : Nat) (K3 : Nat → Nat → Int32 → Int32 → Int32 → Int32 → xM → Option (Int32 × xM)) (hK3 : ∀ (v0 : Nat) (v1 : Nat) (v2 : Int32) (v3 : Int32) (v4 : Int32) (v5 : Int32) M, xZ oI O (d + 8) 146 3 [(0, .ref v0), (1, .ref v1), (2, .int v2), (3, .int v3), (4, .int v4), (5, .int v5)] [] M (K3 v0 v1 v2 v3 v4 v5 M)) (v0 : Nat) (v1 : Nat) (v2 : Int32) (v3 : Int32) (v4 : Int32) (v5 : Int32) (s0 : Nat) (s1 : Int32) (s2 : Int32) (s3 : Int32) (s4 : Int32) (s5 : Int32) (s6 : Int32) (M : xM) : xZ oI O (d + 8) 146 106 [(0, .ref v0), (1, .ref v1), (2, .int v2), (3, .int v3), (4, .int v4), (5, .int v5)] [.int s6, .int s5, .int s4, .int s3, .int s2, .int s1, .ref s0] M (f_Law_series_106 O f K3 v0 v1 v2 v3 v4 v5 s0 s1 s2 s3 s4 s5 s6 M) := by
  unfold f_Law_series_106
  refine xZ.callv (κ := oI) (av := [.int s1, .int s2, .int s3, .int s4, .int s5, .int s6]) (rest := []) (st' := fun x1 => [.int x1]) (k0 := s0) (me := xm146) hP_146 rfl (Or.inl rfl) ⟨rfl, by decide⟩ rfl rfl (Nat.le_of_ble_eq_true rfl) (by decide) hP_36 (Nat.le_of_ble_eq_true rfl) (fun _ => rfl) (k_f_Calendarhall_addSeries O f (d + 0) s0 s1 s2 s3 s4 s5 s6 M) (fun x1 M1 => ?_)
  refine xZ.adv (me := xm146) hP_146 3 (pc' := 112) (lv' := [(0, .ref v0), (1, .ref v1), (2, .int v2), (3, .int v3), (4, .int v4), (5, .int v5)]) (st' := [.int (2 : Int32), .ref v1]) rfl ?_
  refine xZ.callv (κ := oI) (av := [.int (2 : Int32)]) (rest := []) (st' := fun x2 => [.int x2]) (k0 := v1) (me := xm146) hP_146 rfl (Or.inl rfl) ⟨rfl, by decide⟩ rfl rfl (Nat.le_of_ble_eq_true rfl) (by decide) hP_18 (Nat.le_of_ble_eq_true rfl) (fun _ => rfl) (k_f_LDraw_is O f (d + 6) v1 (2 : Int32) M1) (fun x2 M2 => ?_)
  refine xZ.if_eq (me := xm146) hP_146 rfl (fun h1 => ?_) (fun h1 => ?_)
  · skip
    exact (k_f_Law_series_135 O f d K3 hK3 v0 v1 v2 v3 v4 v5 M2)
  · skip
    refine xZ.adv (me := xm146) hP_146 6 (pc' := 125) (lv' := [(0, .ref v0), (1, .ref v1), (2, .int v2), (3, .int v3), (4, .int v4), (5, .int v5)]) (st' := [.int (3 : Int32), .ref v1, .int (1 : Int32), .int (1 : Int32), .int v5, .ref v0]) rfl ?_
    refine xZ.callv (κ := oI) (av := [.int (3 : Int32)]) (rest := [.int (1 : Int32), .int (1 : Int32), .int v5, .ref v0]) (st' := fun x3 => [.int x3, .int (1 : Int32), .int (1 : Int32), .int v5, .ref v0]) (k0 := v1) (me := xm146) hP_146 rfl (Or.inl rfl) ⟨rfl, by decide⟩ rfl rfl (Nat.le_of_ble_eq_true rfl) (by decide) hP_12 (Nat.le_of_ble_eq_true rfl) (fun _ => rfl) (k_f_LDraw_n O f (d + 7) v1 (3 : Int32) M2) (fun x3 M3 => ?_)
    refine xZ.adv (me := xm146) hP_146 3 (pc' := 131) (lv' := [(0, .ref v0), (1, .ref v1), (2, .int v2), (3, .int v3), (4, .int v4), (5, .int v5)]) (st' := [.int (0 : Int32), .int (0 : Int32), .int ((1 : Int32) + x3), .int (1 : Int32), .int v5, .ref v0]) rfl ?_
    refine xZ.callv (κ := oI) (av := [.int v5, .int (1 : Int32), .int ((1 : Int32) + x3), .int (0 : Int32), .int (0 : Int32)]) (rest := []) (st' := fun x4 => [.int x4]) (k0 := v0) (me := xm146) hP_146 rfl (Or.inl rfl) ⟨rfl, by decide⟩ rfl rfl (Nat.le_of_ble_eq_true rfl) (by decide) hP_80 (Nat.le_of_ble_eq_true rfl) (fun _ => rfl) (k_f_Calendarhall_setRule O f (d + 0) v0 v5 (1 : Int32) ((1 : Int32) + x3) (0 : Int32) (0 : Int32) M3) (fun x4 M4 => ?_)
    refine xZ.adv (me := xm146) hP_146 1 (pc' := 135) (lv' := [(0, .ref v0), (1, .ref v1), (2, .int v2), (3, .int v3), (4, .int v4), (5, .int v5)]) (st' := []) rfl ?_
    exact (k_f_Law_series_135 O f d K3 hK3 v0 v1 v2 v3 v4 v5 M4)
def f_Law_series_86 (O : Nat → Option va_E) (f : Nat) (K3 : Nat → Nat → Int32 → Int32 → Int32 → Int32 → xM → Option (Int32 × xM)) (v0 : Nat) (v1 : Nat) (v2 : Int32) (v3 : Int32) (v4 : Int32) (v5 : Int32) (s0 : Nat) (s1 : Int32) (s2 : Int32) (s3 : Int32) (s4 : Int32) (M : xM) : Option (Int32 × xM) :=
  (isO O M v1 15).bind fun _ =>
  xcl (f_LDraw_n O f v1 ((1 : Int32) <<< (v3 &&& 31)) M) fun x1 M1 =>
  (isO O M1 v1 15).bind fun _ =>
  xcl (f_LDraw_is O f v1 (3 : Int32) M1) fun x2 M2 =>
  if x2 = 0 then (
    f_Law_series_106 O f K3 v0 v1 v2 v3 v4 v5 s0 s1 s2 s3 s4 x1 (1 : Int32) M2
  ) else
  f_Law_series_106 O f K3 v0 v1 v2 v3 v4 v5 s0 s1 s2 s3 s4 x1 (0 : Int32) M2
set_option maxRecDepth 20000 in
theorem k_f_Law_series_86 (O : Nat → Option va_E) (f d : Nat) (K3 : Nat → Nat → Int32 → Int32 → Int32 → Int32 → xM → Option (Int32 × xM)) (hK3 : ∀ (v0 : Nat) (v1 : Nat) (v2 : Int32) (v3 : Int32) (v4 : Int32) (v5 : Int32) M, xZ oI O (d + 8) 146 3 [(0, .ref v0), (1, .ref v1), (2, .int v2), (3, .int v3), (4, .int v4), (5, .int v5)] [] M (K3 v0 v1 v2 v3 v4 v5 M)) (v0 : Nat) (v1 : Nat) (v2 : Int32) (v3 : Int32) (v4 : Int32) (v5 : Int32) (s0 : Nat) (s1 : Int32) (s2 : Int32) (s3 : Int32) (s4 : Int32) (M : xM) : xZ oI O (d + 8) 146 86 [(0, .ref v0), (1, .ref v1), (2, .int v2), (3, .int v3), (4, .int v4), (5, .int v5)] [.int s4, .int s3, .int s2, .int s1, .ref s0] M (f_Law_series_86 O f K3 v0 v1 v2 v3 v4 v5 s0 s1 s2 s3 s4 M) := by
  unfold f_Law_series_86
  refine xZ.adv (me := xm146) hP_146 4 (pc' := 90) (lv' := [(0, .ref v0), (1, .ref v1), (2, .int v2), (3, .int v3), (4, .int v4), (5, .int v5)]) (st' := [.int ((1 : Int32) <<< (v3 &&& 31)), .ref v1, .int s4, .int s3, .int s2, .int s1, .ref s0]) rfl ?_
  refine xZ.callv (κ := oI) (av := [.int ((1 : Int32) <<< (v3 &&& 31))]) (rest := [.int s4, .int s3, .int s2, .int s1, .ref s0]) (st' := fun x1 => [.int x1, .int s4, .int s3, .int s2, .int s1, .ref s0]) (k0 := v1) (me := xm146) hP_146 rfl (Or.inl rfl) ⟨rfl, by decide⟩ rfl rfl (Nat.le_of_ble_eq_true rfl) (by decide) hP_12 (Nat.le_of_ble_eq_true rfl) (fun _ => rfl) (k_f_LDraw_n O f (d + 7) v1 ((1 : Int32) <<< (v3 &&& 31)) M) (fun x1 M1 => ?_)
  refine xZ.adv (me := xm146) hP_146 2 (pc' := 95) (lv' := [(0, .ref v0), (1, .ref v1), (2, .int v2), (3, .int v3), (4, .int v4), (5, .int v5)]) (st' := [.int (3 : Int32), .ref v1, .int x1, .int s4, .int s3, .int s2, .int s1, .ref s0]) rfl ?_
  refine xZ.callv (κ := oI) (av := [.int (3 : Int32)]) (rest := [.int x1, .int s4, .int s3, .int s2, .int s1, .ref s0]) (st' := fun x2 => [.int x2, .int x1, .int s4, .int s3, .int s2, .int s1, .ref s0]) (k0 := v1) (me := xm146) hP_146 rfl (Or.inl rfl) ⟨rfl, by decide⟩ rfl rfl (Nat.le_of_ble_eq_true rfl) (by decide) hP_18 (Nat.le_of_ble_eq_true rfl) (fun _ => rfl) (k_f_LDraw_is O f (d + 6) v1 (3 : Int32) M1) (fun x2 M2 => ?_)
  refine xZ.if_ne (me := xm146) hP_146 rfl (fun h1 => ?_) (fun h1 => ?_)
  · skip
    refine xZ.adv (me := xm146) hP_146 2 (pc' := 106) (lv' := [(0, .ref v0), (1, .ref v1), (2, .int v2), (3, .int v3), (4, .int v4), (5, .int v5)]) (st' := [.int (1 : Int32), .int x1, .int s4, .int s3, .int s2, .int s1, .ref s0]) rfl ?_
    exact (k_f_Law_series_106 O f d K3 hK3 v0 v1 v2 v3 v4 v5 s0 s1 s2 s3 s4 x1 (1 : Int32) M2)
  · skip
    refine xZ.adv (me := xm146) hP_146 1 (pc' := 106) (lv' := [(0, .ref v0), (1, .ref v1), (2, .int v2), (3, .int v3), (4, .int v4), (5, .int v5)]) (st' := [.int (0 : Int32), .int x1, .int s4, .int s3, .int s2, .int s1, .ref s0]) rfl ?_
    exact (k_f_Law_series_106 O f d K3 hK3 v0 v1 v2 v3 v4 v5 s0 s1 s2 s3 s4 x1 (0 : Int32) M2)
def f_Law_series_54 (O : Nat → Option va_E) (f : Nat) (K3 : Nat → Nat → Int32 → Int32 → Int32 → Int32 → xM → Option (Int32 × xM)) (v0 : Nat) (v1 : Nat) (v2 : Int32) (v3 : Int32) (v4 : Int32) (v5 : Int32) (s0 : Nat) (s1 : Int32) (s2 : Int32) (s3 : Int32) (M : xM) : Option (Int32 × xM) :=
  (isO O M v1 15).bind fun _ =>
  xcl (f_LDraw_is O f v1 (3 : Int32) M) fun x1 M1 =>
  if x1 = 0 then (
    (isO O M1 v1 15).bind fun _ =>
    xcl (f_LDraw_n O f v1 (8 : Int32) M1) fun x2 M2 =>
    f_Law_series_86 O f K3 v0 v1 v2 v3 v4 v5 s0 s1 s2 s3 ((30 : Int32) + ((15 : Int32) * x2)) M2
  ) else
  (isO O M1 v1 15).bind fun _ =>
  xcl (f_LDraw_n O f v1 (600 : Int32) M1) fun x3 M3 =>
  f_Law_series_86 O f K3 v0 v1 v2 v3 v4 v5 s0 s1 s2 s3 ((1 : Int32) + x3) M3
set_option maxRecDepth 20000 in
theorem k_f_Law_series_54 (O : Nat → Option va_E) (f d : Nat) (K3 : Nat → Nat → Int32 → Int32 → Int32 → Int32 → xM → Option (Int32 × xM)) (hK3 : ∀ (v0 : Nat) (v1 : Nat) (v2 : Int32) (v3 : Int32) (v4 : Int32) (v5 : Int32) M, xZ oI O (d + 8) 146 3 [(0, .ref v0), (1, .ref v1), (2, .int v2), (3, .int v3), (4, .int v4), (5, .int v5)] [] M (K3 v0 v1 v2 v3 v4 v5 M)) (v0 : Nat) (v1 : Nat) (v2 : Int32) (v3 : Int32) (v4 : Int32) (v5 : Int32) (s0 : Nat) (s1 : Int32) (s2 : Int32) (s3 : Int32) (M : xM) : xZ oI O (d + 8) 146 54 [(0, .ref v0), (1, .ref v1), (2, .int v2), (3, .int v3), (4, .int v4), (5, .int v5)] [.int s3, .int s2, .int s1, .ref s0] M (f_Law_series_54 O f K3 v0 v1 v2 v3 v4 v5 s0 s1 s2 s3 M) := by
  unfold f_Law_series_54
  refine xZ.adv (me := xm146) hP_146 2 (pc' := 56) (lv' := [(0, .ref v0), (1, .ref v1), (2, .int v2), (3, .int v3), (4, .int v4), (5, .int v5)]) (st' := [.int (3 : Int32), .ref v1, .int s3, .int s2, .int s1, .ref s0]) rfl ?_
  refine xZ.callv (κ := oI) (av := [.int (3 : Int32)]) (rest := [.int s3, .int s2, .int s1, .ref s0]) (st' := fun x1 => [.int x1, .int s3, .int s2, .int s1, .ref s0]) (k0 := v1) (me := xm146) hP_146 rfl (Or.inl rfl) ⟨rfl, by decide⟩ rfl rfl (Nat.le_of_ble_eq_true rfl) (by decide) hP_18 (Nat.le_of_ble_eq_true rfl) (fun _ => rfl) (k_f_LDraw_is O f (d + 6) v1 (3 : Int32) M) (fun x1 M1 => ?_)
  refine xZ.if_eq (me := xm146) hP_146 rfl (fun h1 => ?_) (fun h1 => ?_)
  · skip
    refine xZ.adv (me := xm146) hP_146 4 (pc' := 81) (lv' := [(0, .ref v0), (1, .ref v1), (2, .int v2), (3, .int v3), (4, .int v4), (5, .int v5)]) (st' := [.int (8 : Int32), .ref v1, .int (15 : Int32), .int (30 : Int32), .int s3, .int s2, .int s1, .ref s0]) rfl ?_
    refine xZ.callv (κ := oI) (av := [.int (8 : Int32)]) (rest := [.int (15 : Int32), .int (30 : Int32), .int s3, .int s2, .int s1, .ref s0]) (st' := fun x2 => [.int x2, .int (15 : Int32), .int (30 : Int32), .int s3, .int s2, .int s1, .ref s0]) (k0 := v1) (me := xm146) hP_146 rfl (Or.inl rfl) ⟨rfl, by decide⟩ rfl rfl (Nat.le_of_ble_eq_true rfl) (by decide) hP_12 (Nat.le_of_ble_eq_true rfl) (fun _ => rfl) (k_f_LDraw_n O f (d + 7) v1 (8 : Int32) M1) (fun x2 M2 => ?_)
    refine xZ.adv (me := xm146) hP_146 2 (pc' := 86) (lv' := [(0, .ref v0), (1, .ref v1), (2, .int v2), (3, .int v3), (4, .int v4), (5, .int v5)]) (st' := [.int ((30 : Int32) + ((15 : Int32) * x2)), .int s3, .int s2, .int s1, .ref s0]) rfl ?_
    exact (k_f_Law_series_86 O f d K3 hK3 v0 v1 v2 v3 v4 v5 s0 s1 s2 s3 ((30 : Int32) + ((15 : Int32) * x2)) M2)
  · skip
    refine xZ.adv (me := xm146) hP_146 3 (pc' := 67) (lv' := [(0, .ref v0), (1, .ref v1), (2, .int v2), (3, .int v3), (4, .int v4), (5, .int v5)]) (st' := [.int (600 : Int32), .ref v1, .int (1 : Int32), .int s3, .int s2, .int s1, .ref s0]) rfl ?_
    refine xZ.callv (κ := oI) (av := [.int (600 : Int32)]) (rest := [.int (1 : Int32), .int s3, .int s2, .int s1, .ref s0]) (st' := fun x3 => [.int x3, .int (1 : Int32), .int s3, .int s2, .int s1, .ref s0]) (k0 := v1) (me := xm146) hP_146 rfl (Or.inl rfl) ⟨rfl, by decide⟩ rfl rfl (Nat.le_of_ble_eq_true rfl) (by decide) hP_12 (Nat.le_of_ble_eq_true rfl) (fun _ => rfl) (k_f_LDraw_n O f (d + 7) v1 (600 : Int32) M1) (fun x3 M3 => ?_)
    refine xZ.adv (me := xm146) hP_146 2 (pc' := 86) (lv' := [(0, .ref v0), (1, .ref v1), (2, .int v2), (3, .int v3), (4, .int v4), (5, .int v5)]) (st' := [.int ((1 : Int32) + x3), .int s3, .int s2, .int s1, .ref s0]) rfl ?_
    exact (k_f_Law_series_86 O f d K3 hK3 v0 v1 v2 v3 v4 v5 s0 s1 s2 s3 ((1 : Int32) + x3) M3)
def f_Law_series_3 (O : Nat → Option va_E) (f : Nat) : Nat → Nat → Nat → Int32 → Int32 → Int32 → Int32 → xM → Option (Int32 × xM)
  | 0, _, _, _, _, _, _, _ => none
  | n + 1, v0, v1, v2, v3, v4, v5, M =>
    if v2 ≤ v5 then (
      some (v2, M)
    ) else
    (isO O M v1 15).bind fun _ =>
    xcl (f_LDraw_n O f v1 (3 : Int32) M) fun x1 M1 =>
    (isO O M1 v1 15).bind fun _ =>
    xcl (f_LDraw_n O f v1 (4 : Int32) M1) fun x2 M2 =>
    (isO O M2 v1 15).bind fun _ =>
    xcl (f_LDraw_is O f v1 (3 : Int32) M2) fun x3 M3 =>
    if x3 = 0 then (
      (isO O M3 v1 15).bind fun _ =>
      xcl (f_LDraw_n O f v1 (18 : Int32) M3) fun x4 M4 =>
      f_Law_series_54 O f (f_Law_series_3 O f n) v0 v1 v2 v3 v4 v5 v0 x1 (v4 + x2) ((480 : Int32) + ((30 : Int32) * x4)) M4
    ) else
    (isO O M3 v1 15).bind fun _ =>
    xcl (f_LDraw_n O f v1 (1440 : Int32) M3) fun x5 M5 =>
    f_Law_series_54 O f (f_Law_series_3 O f n) v0 v1 v2 v3 v4 v5 v0 x1 (v4 + x2) x5 M5
set_option maxRecDepth 20000 in
theorem k_f_Law_series_3 (O : Nat → Option va_E) (f d : Nat) : ∀ (n : Nat) (v0 : Nat) (v1 : Nat) (v2 : Int32) (v3 : Int32) (v4 : Int32) (v5 : Int32) (M : xM), xZ oI O (d + 8) 146 3 [(0, .ref v0), (1, .ref v1), (2, .int v2), (3, .int v3), (4, .int v4), (5, .int v5)] [] M (f_Law_series_3 O f n v0 v1 v2 v3 v4 v5 M) := by
  intro n
  induction n with
  | zero =>
    intro v0 v1 v2 v3 v4 v5 M
    exact xZ.no
  | succ n ih =>
    intro v0 v1 v2 v3 v4 v5 M
    unfold f_Law_series_3
    refine xZ.adv (me := xm146) hP_146 2 (pc' := 6) (lv' := [(0, .ref v0), (1, .ref v1), (2, .int v2), (3, .int v3), (4, .int v4), (5, .int v5)]) (st' := [.int v2, .int v5]) rfl ?_
    refine xZ.ic_ge (me := xm146) hP_146 rfl (fun h1 => ?_) (fun h1 => ?_)
    · skip
      refine xZ.adv (me := xm146) hP_146 1 (pc' := 256) (lv' := [(0, .ref v0), (1, .ref v1), (2, .int v2), (3, .int v3), (4, .int v4), (5, .int v5)]) (st' := [.int v2]) rfl ?_
      exact xZ.reti (me := xm146) hP_146 rfl rfl
    · skip
      refine xZ.adv (me := xm146) hP_146 3 (pc' := 12) (lv' := [(0, .ref v0), (1, .ref v1), (2, .int v2), (3, .int v3), (4, .int v4), (5, .int v5)]) (st' := [.int (3 : Int32), .ref v1, .ref v0]) rfl ?_
      refine xZ.callv (κ := oI) (av := [.int (3 : Int32)]) (rest := [.ref v0]) (st' := fun x1 => [.int x1, .ref v0]) (k0 := v1) (me := xm146) hP_146 rfl (Or.inl rfl) ⟨rfl, by decide⟩ rfl rfl (Nat.le_of_ble_eq_true rfl) (by decide) hP_12 (Nat.le_of_ble_eq_true rfl) (fun _ => rfl) (k_f_LDraw_n O f (d + 7) v1 (3 : Int32) M) (fun x1 M1 => ?_)
      refine xZ.adv (me := xm146) hP_146 3 (pc' := 19) (lv' := [(0, .ref v0), (1, .ref v1), (2, .int v2), (3, .int v3), (4, .int v4), (5, .int v5)]) (st' := [.int (4 : Int32), .ref v1, .int v4, .int x1, .ref v0]) rfl ?_
      refine xZ.callv (κ := oI) (av := [.int (4 : Int32)]) (rest := [.int v4, .int x1, .ref v0]) (st' := fun x2 => [.int x2, .int v4, .int x1, .ref v0]) (k0 := v1) (me := xm146) hP_146 rfl (Or.inl rfl) ⟨rfl, by decide⟩ rfl rfl (Nat.le_of_ble_eq_true rfl) (by decide) hP_12 (Nat.le_of_ble_eq_true rfl) (fun _ => rfl) (k_f_LDraw_n O f (d + 7) v1 (4 : Int32) M1) (fun x2 M2 => ?_)
      refine xZ.adv (me := xm146) hP_146 3 (pc' := 25) (lv' := [(0, .ref v0), (1, .ref v1), (2, .int v2), (3, .int v3), (4, .int v4), (5, .int v5)]) (st' := [.int (3 : Int32), .ref v1, .int (v4 + x2), .int x1, .ref v0]) rfl ?_
      refine xZ.callv (κ := oI) (av := [.int (3 : Int32)]) (rest := [.int (v4 + x2), .int x1, .ref v0]) (st' := fun x3 => [.int x3, .int (v4 + x2), .int x1, .ref v0]) (k0 := v1) (me := xm146) hP_146 rfl (Or.inl rfl) ⟨rfl, by decide⟩ rfl rfl (Nat.le_of_ble_eq_true rfl) (by decide) hP_18 (Nat.le_of_ble_eq_true rfl) (fun _ => rfl) (k_f_LDraw_is O f (d + 6) v1 (3 : Int32) M2) (fun x3 M3 => ?_)
      refine xZ.if_eq (me := xm146) hP_146 rfl (fun h2 => ?_) (fun h2 => ?_)
      · skip
        refine xZ.adv (me := xm146) hP_146 4 (pc' := 49) (lv' := [(0, .ref v0), (1, .ref v1), (2, .int v2), (3, .int v3), (4, .int v4), (5, .int v5)]) (st' := [.int (18 : Int32), .ref v1, .int (30 : Int32), .int (480 : Int32), .int (v4 + x2), .int x1, .ref v0]) rfl ?_
        refine xZ.callv (κ := oI) (av := [.int (18 : Int32)]) (rest := [.int (30 : Int32), .int (480 : Int32), .int (v4 + x2), .int x1, .ref v0]) (st' := fun x4 => [.int x4, .int (30 : Int32), .int (480 : Int32), .int (v4 + x2), .int x1, .ref v0]) (k0 := v1) (me := xm146) hP_146 rfl (Or.inl rfl) ⟨rfl, by decide⟩ rfl rfl (Nat.le_of_ble_eq_true rfl) (by decide) hP_12 (Nat.le_of_ble_eq_true rfl) (fun _ => rfl) (k_f_LDraw_n O f (d + 7) v1 (18 : Int32) M3) (fun x4 M4 => ?_)
        refine xZ.adv (me := xm146) hP_146 2 (pc' := 54) (lv' := [(0, .ref v0), (1, .ref v1), (2, .int v2), (3, .int v3), (4, .int v4), (5, .int v5)]) (st' := [.int ((480 : Int32) + ((30 : Int32) * x4)), .int (v4 + x2), .int x1, .ref v0]) rfl ?_
        exact (k_f_Law_series_54 O f d (f_Law_series_3 O f n) ih v0 v1 v2 v3 v4 v5 v0 x1 (v4 + x2) ((480 : Int32) + ((30 : Int32) * x4)) M4)
      · skip
        refine xZ.adv (me := xm146) hP_146 2 (pc' := 35) (lv' := [(0, .ref v0), (1, .ref v1), (2, .int v2), (3, .int v3), (4, .int v4), (5, .int v5)]) (st' := [.int (1440 : Int32), .ref v1, .int (v4 + x2), .int x1, .ref v0]) rfl ?_
        refine xZ.callv (κ := oI) (av := [.int (1440 : Int32)]) (rest := [.int (v4 + x2), .int x1, .ref v0]) (st' := fun x5 => [.int x5, .int (v4 + x2), .int x1, .ref v0]) (k0 := v1) (me := xm146) hP_146 rfl (Or.inl rfl) ⟨rfl, by decide⟩ rfl rfl (Nat.le_of_ble_eq_true rfl) (by decide) hP_12 (Nat.le_of_ble_eq_true rfl) (fun _ => rfl) (k_f_LDraw_n O f (d + 7) v1 (1440 : Int32) M3) (fun x5 M5 => ?_)
        refine xZ.adv (me := xm146) hP_146 1 (pc' := 54) (lv' := [(0, .ref v0), (1, .ref v1), (2, .int v2), (3, .int v3), (4, .int v4), (5, .int v5)]) (st' := [.int x5, .int (v4 + x2), .int x1, .ref v0]) rfl ?_
        exact (k_f_Law_series_54 O f d (f_Law_series_3 O f n) ih v0 v1 v2 v3 v4 v5 v0 x1 (v4 + x2) x5 M5)
def f_Law_series (O : Nat → Option va_E) (f : Nat) (v0 : Nat) (v1 : Nat) (v2 : Int32) (v3 : Int32) (v4 : Int32) (M : xM) : Option (Int32 × xM) :=
  f_Law_series_3 O f f v0 v1 v2 v3 v4 (0 : Int32) M
set_option maxRecDepth 20000 in
theorem k_f_Law_series (O : Nat → Option va_E) (f d : Nat) (v0 : Nat) (v1 : Nat) (v2 : Int32) (v3 : Int32) (v4 : Int32) (M : xM) : xZ oI O (d + 8) 146 0 [(0, .ref v0), (1, .ref v1), (2, .int v2), (3, .int v3), (4, .int v4)] [] M (f_Law_series O f v0 v1 v2 v3 v4 M) := by
  unfold f_Law_series
  refine xZ.adv (me := xm146) hP_146 2 (pc' := 3) (lv' := [(5, .int (0 : Int32)), (0, .ref v0), (1, .ref v1), (2, .int v2), (3, .int v3), (4, .int v4)]) (st' := []) rfl ?_
  exact xZ.sub (xsc (.tail _ (.head _)) (xsc (.tail _ (.tail _ (.head _))) (xsc (.tail _ (.tail _ (.tail _ (.head _)))) (xsc (.tail _ (.tail _ (.tail _ (.tail _ (.head _))))) (xsc (.tail _ (.tail _ (.tail _ (.tail _ (.tail _ (.head _)))))) (xsc (.head _) xsn)))))) (show ([5, 0, 1, 2, 3, 4] : List Nat).Nodup from by decide) (k_f_Law_series_3 O f d f v0 v1 v2 v3 v4 (0 : Int32) M)
def f_Calendarhall_setPerson (O : Nat → Option va_E) (f : Nat) (v0 : Nat) (v1 : Int32) (v2 : Int32) (v3 : Int32) (v4 : Int32) (v5 : Int32) (M : xM) : Option (Int32 × xM) :=
  (isO O M v0 12).bind fun _ =>
  xcl (f_Calendarhall_personNumbered O f v0 v1 M) fun x1 M1 =>
  (isO O M1 v0 12).bind fun _ =>
  xcl (f_Calendarhall_zoneNumbered O f v0 v2 M1) fun x2 M2 =>
  xcl (f_Calendarhall_needRange O f v3 (0 : Int32) (127 : Int32) M2) fun _ M3 =>
  xcl (f_Calendarhall_needRange O f v4 (0 : Int32) (1439 : Int32) M3) fun _ M4 =>
  xcl (f_Calendarhall_needRange O f v5 (v4 + (1 : Int32)) (1440 : Int32) M4) fun _ M5 =>
  (gI O M5 x1 6 0).bind fun x6 =>
  (isO O M5 v0 12).bind fun _ =>
  xcl (f_Calendarhall_saveForUndo O f v0 M5) fun _ M6 =>
  (isO O M6 x1 6).bind fun _ =>
  xcl (f_Person_put O f x1 v2 v3 v4 v5 M6) fun _ M7 =>
  some (x6, M7)
set_option maxRecDepth 20000 in
theorem k_f_Calendarhall_setPerson (O : Nat → Option va_E) (f d : Nat) (v0 : Nat) (v1 : Int32) (v2 : Int32) (v3 : Int32) (v4 : Int32) (v5 : Int32) (M : xM) : xZ oI O (d + 5) 151 0 [(0, .ref v0), (1, .int v1), (2, .int v2), (3, .int v3), (4, .int v4), (5, .int v5)] [] M (f_Calendarhall_setPerson O f v0 v1 v2 v3 v4 v5 M) := by
  unfold f_Calendarhall_setPerson
  refine xZ.adv (me := xm151) hP_151 2 (pc' := 2) (lv' := [(0, .ref v0), (1, .int v1), (2, .int v2), (3, .int v3), (4, .int v4), (5, .int v5)]) (st' := [.int v1, .ref v0]) rfl ?_
  refine xZ.callv (κ := oR) (av := [.int v1]) (rest := []) (st' := fun x1 => [.ref x1]) (k0 := v0) (me := xm151) hP_151 rfl (Or.inl rfl) ⟨rfl, by decide⟩ rfl rfl (Nat.le_of_ble_eq_true rfl) (by decide) hP_148 (Nat.le_of_ble_eq_true rfl) (fun _ => rfl) (k_f_Calendarhall_personNumbered O f (d + 3) v0 v1 M) (fun x1 M1 => ?_)
  refine xZ.adv (me := xm151) hP_151 3 (pc' := 9) (lv' := [(6, .ref x1), (0, .ref v0), (1, .int v1), (2, .int v2), (3, .int v3), (4, .int v4), (5, .int v5)]) (st' := [.int v2, .ref v0]) rfl ?_
  refine xZ.callv (κ := oR) (av := [.int v2]) (rest := []) (st' := fun x2 => [.ref x2]) (k0 := v0) (me := xm151) hP_151 rfl (Or.inl rfl) ⟨rfl, by decide⟩ rfl rfl (Nat.le_of_ble_eq_true rfl) (by decide) hP_20 (Nat.le_of_ble_eq_true rfl) (fun _ => rfl) (k_f_Calendarhall_zoneNumbered O f (d + 3) v0 v2 M1) (fun x2 M2 => ?_)
  refine xZ.adv (me := xm151) hP_151 4 (pc' := 17) (lv' := [(6, .ref x1), (0, .ref v0), (1, .int v1), (2, .int v2), (3, .int v3), (4, .int v4), (5, .int v5)]) (st' := [.int (127 : Int32), .int (0 : Int32), .int v3]) rfl ?_
  refine xZ.calls (κ := oU) (av := [.int v3, .int (0 : Int32), .int (127 : Int32)]) (rest := []) (st' := fun _ => []) (me := xm151) hP_151 rfl rfl rfl (Nat.le_of_ble_eq_true rfl) (by decide) hP_22 (Nat.le_of_ble_eq_true rfl) (fun _ => rfl) (k_f_Calendarhall_needRange O f (d + 4) v3 (0 : Int32) (127 : Int32) M2) (fun _ M3 => ?_)
  refine xZ.adv (me := xm151) hP_151 3 (pc' := 26) (lv' := [(6, .ref x1), (0, .ref v0), (1, .int v1), (2, .int v2), (3, .int v3), (4, .int v4), (5, .int v5)]) (st' := [.int (1439 : Int32), .int (0 : Int32), .int v4]) rfl ?_
  refine xZ.calls (κ := oU) (av := [.int v4, .int (0 : Int32), .int (1439 : Int32)]) (rest := []) (st' := fun _ => []) (me := xm151) hP_151 rfl rfl rfl (Nat.le_of_ble_eq_true rfl) (by decide) hP_22 (Nat.le_of_ble_eq_true rfl) (fun _ => rfl) (k_f_Calendarhall_needRange O f (d + 4) v4 (0 : Int32) (1439 : Int32) M3) (fun _ M4 => ?_)
  refine xZ.adv (me := xm151) hP_151 5 (pc' := 38) (lv' := [(6, .ref x1), (0, .ref v0), (1, .int v1), (2, .int v2), (3, .int v3), (4, .int v4), (5, .int v5)]) (st' := [.int (1440 : Int32), .int (v4 + (1 : Int32)), .int v5]) rfl ?_
  refine xZ.calls (κ := oU) (av := [.int v5, .int (v4 + (1 : Int32)), .int (1440 : Int32)]) (rest := []) (st' := fun _ => []) (me := xm151) hP_151 rfl rfl rfl (Nat.le_of_ble_eq_true rfl) (by decide) hP_22 (Nat.le_of_ble_eq_true rfl) (fun _ => rfl) (k_f_Calendarhall_needRange O f (d + 4) v5 (v4 + (1 : Int32)) (1440 : Int32) M4) (fun _ M5 => ?_)
  refine xZ.adv (me := xm151) hP_151 1 (pc' := 43) (lv' := [(6, .ref x1), (0, .ref v0), (1, .int v1), (2, .int v2), (3, .int v3), (4, .int v4), (5, .int v5)]) (st' := [.ref x1]) rfl ?_
  refine xZ.k_gI (me := xm151) hP_151 rfl (fun x6 => ?_)
  refine xZ.adv (me := xm151) hP_151 2 (pc' := 49) (lv' := [(7, .int x6), (6, .ref x1), (0, .ref v0), (1, .int v1), (2, .int v2), (3, .int v3), (4, .int v4), (5, .int v5)]) (st' := [.ref v0]) rfl ?_
  refine xZ.callv (κ := oU) (av := []) (rest := []) (st' := fun _ => []) (k0 := v0) (me := xm151) hP_151 rfl (Or.inl rfl) ⟨rfl, by decide⟩ rfl rfl (Nat.le_of_ble_eq_true rfl) (by decide) hP_23 (Nat.le_of_ble_eq_true rfl) (fun _ => rfl) (k_f_Calendarhall_saveForUndo O f (d + 0) v0 M5) (fun _ M6 => ?_)
  refine xZ.adv (me := xm151) hP_151 5 (pc' := 60) (lv' := [(7, .int x6), (6, .ref x1), (0, .ref v0), (1, .int v1), (2, .int v2), (3, .int v3), (4, .int v4), (5, .int v5)]) (st' := [.int v5, .int v4, .int v3, .int v2, .ref x1]) rfl ?_
  refine xZ.callv (κ := oU) (av := [.int v2, .int v3, .int v4, .int v5]) (rest := []) (st' := fun _ => []) (k0 := x1) (me := xm151) hP_151 rfl (Or.inl rfl) ⟨rfl, by decide⟩ rfl rfl (Nat.le_of_ble_eq_true rfl) (by decide) hP_28 (Nat.le_of_ble_eq_true rfl) (fun _ => rfl) (k_f_Person_put O f (d + 4) x1 v2 v3 v4 v5 M6) (fun _ M7 => ?_)
  refine xZ.adv (me := xm151) hP_151 1 (pc' := 65) (lv' := [(7, .int x6), (6, .ref x1), (0, .ref v0), (1, .int v1), (2, .int v2), (3, .int v3), (4, .int v4), (5, .int v5)]) (st' := [.int x6]) rfl ?_
  exact xZ.reti (me := xm151) hP_151 rfl rfl
def f_LDates_copies (O : Nat → Option va_E) (f : Nat) (v0 : Nat) (v1 : Int32) (v2 : Int32) (M : xM) : Option (Unit × xM) :=
  (gR O M v0 13 0).bind fun x1 =>
  (gR O M v0 13 0).bind fun x2 =>
  (aI O M x2 v1).bind fun x3 =>
  (wI M x1 v2 x3).bind fun M1 =>
  (gR O M1 v0 13 1).bind fun x4 =>
  (gR O M1 v0 13 1).bind fun x5 =>
  (aI O M1 x5 v1).bind fun x6 =>
  (wI M1 x4 v2 x6).bind fun M2 =>
  (gR O M2 v0 13 2).bind fun x7 =>
  (gR O M2 v0 13 2).bind fun x8 =>
  (aI O M2 x8 v1).bind fun x9 =>
  (wI M2 x7 v2 x9).bind fun M3 =>
  (gR O M3 v0 13 3).bind fun x10 =>
  (gR O M3 v0 13 3).bind fun x11 =>
  (aI O M3 x11 v1).bind fun x12 =>
  (wI M3 x10 v2 x12).bind fun M4 =>
  some ((), M4)
set_option maxRecDepth 20000 in
theorem k_f_LDates_copies (O : Nat → Option va_E) (f d : Nat) (v0 : Nat) (v1 : Int32) (v2 : Int32) (M : xM) : xZ oU O (d + 0) 153 0 [(0, .ref v0), (1, .int v1), (2, .int v2)] [] M (f_LDates_copies O f v0 v1 v2 M) := by
  unfold f_LDates_copies
  refine xZ.adv (me := xm153) hP_153 1 (pc' := 1) (lv' := [(0, .ref v0), (1, .int v1), (2, .int v2)]) (st' := [.ref v0]) rfl ?_
  refine xZ.k_gR (me := xm153) hP_153 rfl (fun x1 => ?_)
  refine xZ.adv (me := xm153) hP_153 2 (pc' := 6) (lv' := [(0, .ref v0), (1, .int v1), (2, .int v2)]) (st' := [.ref v0, .int v2, .ref x1]) rfl ?_
  refine xZ.k_gR (me := xm153) hP_153 rfl (fun x2 => ?_)
  refine xZ.adv (me := xm153) hP_153 1 (pc' := 10) (lv' := [(0, .ref v0), (1, .int v1), (2, .int v2)]) (st' := [.int v1, .ref x2, .int v2, .ref x1]) rfl ?_
  refine xZ.k_aI (me := xm153) hP_153 rfl (fun x3 => ?_)
  refine xZ.k_wI (me := xm153) hP_153 rfl (fun M1 => ?_)
  refine xZ.adv (me := xm153) hP_153 1 (pc' := 13) (lv' := [(0, .ref v0), (1, .int v1), (2, .int v2)]) (st' := [.ref v0]) rfl ?_
  refine xZ.k_gR (me := xm153) hP_153 rfl (fun x4 => ?_)
  refine xZ.adv (me := xm153) hP_153 2 (pc' := 18) (lv' := [(0, .ref v0), (1, .int v1), (2, .int v2)]) (st' := [.ref v0, .int v2, .ref x4]) rfl ?_
  refine xZ.k_gR (me := xm153) hP_153 rfl (fun x5 => ?_)
  refine xZ.adv (me := xm153) hP_153 1 (pc' := 22) (lv' := [(0, .ref v0), (1, .int v1), (2, .int v2)]) (st' := [.int v1, .ref x5, .int v2, .ref x4]) rfl ?_
  refine xZ.k_aI (me := xm153) hP_153 rfl (fun x6 => ?_)
  refine xZ.k_wI (me := xm153) hP_153 rfl (fun M2 => ?_)
  refine xZ.adv (me := xm153) hP_153 1 (pc' := 25) (lv' := [(0, .ref v0), (1, .int v1), (2, .int v2)]) (st' := [.ref v0]) rfl ?_
  refine xZ.k_gR (me := xm153) hP_153 rfl (fun x7 => ?_)
  refine xZ.adv (me := xm153) hP_153 2 (pc' := 30) (lv' := [(0, .ref v0), (1, .int v1), (2, .int v2)]) (st' := [.ref v0, .int v2, .ref x7]) rfl ?_
  refine xZ.k_gR (me := xm153) hP_153 rfl (fun x8 => ?_)
  refine xZ.adv (me := xm153) hP_153 1 (pc' := 34) (lv' := [(0, .ref v0), (1, .int v1), (2, .int v2)]) (st' := [.int v1, .ref x8, .int v2, .ref x7]) rfl ?_
  refine xZ.k_aI (me := xm153) hP_153 rfl (fun x9 => ?_)
  refine xZ.k_wI (me := xm153) hP_153 rfl (fun M3 => ?_)
  refine xZ.adv (me := xm153) hP_153 1 (pc' := 37) (lv' := [(0, .ref v0), (1, .int v1), (2, .int v2)]) (st' := [.ref v0]) rfl ?_
  refine xZ.k_gR (me := xm153) hP_153 rfl (fun x10 => ?_)
  refine xZ.adv (me := xm153) hP_153 2 (pc' := 42) (lv' := [(0, .ref v0), (1, .int v1), (2, .int v2)]) (st' := [.ref v0, .int v2, .ref x10]) rfl ?_
  refine xZ.k_gR (me := xm153) hP_153 rfl (fun x11 => ?_)
  refine xZ.adv (me := xm153) hP_153 1 (pc' := 46) (lv' := [(0, .ref v0), (1, .int v1), (2, .int v2)]) (st' := [.int v1, .ref x11, .int v2, .ref x10]) rfl ?_
  refine xZ.k_aI (me := xm153) hP_153 rfl (fun x12 => ?_)
  refine xZ.k_wI (me := xm153) hP_153 rfl (fun M4 => ?_)
  exact xZ.retu (me := xm153) hP_153 rfl rfl
def f_LDates_ctor_204 (O : Nat → Option va_E) (f : Nat) (K59 : Nat → Nat → Int32 → Int32 → Int32 → Int32 → Int32 → xM → Option (Unit × xM)) (v0 : Nat) (v1 : Nat) (v2 : Int32) (v3 : Int32) (v4 : Int32) (v5 : Int32) (v6 : Int32) (M : xM) : Option (Unit × xM) :=
  (isO O M v1 12).bind fun _ =>
  xcl (f_Calendarhall_nextDay O f v1 v5 (v6 + (1 : Int32)) M) fun x1 M1 =>
  K59 v0 v1 v2 v3 v4 v5 x1 M1
set_option maxRecDepth 20000 in
theorem k_f_LDates_ctor_204 (O : Nat → Option va_E) (f d : Nat) (K59 : Nat → Nat → Int32 → Int32 → Int32 → Int32 → Int32 → xM → Option (Unit × xM)) (hK59 : ∀ (v0 : Nat) (v1 : Nat) (v2 : Int32) (v3 : Int32) (v4 : Int32) (v5 : Int32) (v6 : Int32) M, xZ oU O (d + 6) 152 59 [(0, .ref v0), (1, .ref v1), (2, .int v2), (3, .int v3), (4, .int v4), (5, .int v5), (6, .int v6)] [] M (K59 v0 v1 v2 v3 v4 v5 v6 M)) (v0 : Nat) (v1 : Nat) (v2 : Int32) (v3 : Int32) (v4 : Int32) (v5 : Int32) (v6 : Int32) (M : xM) : xZ oU O (d + 6) 152 204 [(0, .ref v0), (1, .ref v1), (2, .int v2), (3, .int v3), (4, .int v4), (5, .int v5), (6, .int v6)] [] M (f_LDates_ctor_204 O f K59 v0 v1 v2 v3 v4 v5 v6 M) := by
  unfold f_LDates_ctor_204
  refine xZ.adv (me := xm152) hP_152 5 (pc' := 211) (lv' := [(0, .ref v0), (1, .ref v1), (2, .int v2), (3, .int v3), (4, .int v4), (5, .int v5), (6, .int v6)]) (st' := [.int (v6 + (1 : Int32)), .int v5, .ref v1]) rfl ?_
  refine xZ.callv (κ := oI) (av := [.int v5, .int (v6 + (1 : Int32))]) (rest := []) (st' := fun x1 => [.int x1]) (k0 := v1) (me := xm152) hP_152 rfl (Or.inl rfl) ⟨rfl, by decide⟩ rfl rfl (Nat.le_of_ble_eq_true rfl) (by decide) hP_91 (Nat.le_of_ble_eq_true rfl) (fun _ => rfl) (k_f_Calendarhall_nextDay O f (d + 0) v1 v5 (v6 + (1 : Int32)) M) (fun x1 M1 => ?_)
  refine xZ.adv (me := xm152) hP_152 2 (pc' := 59) (lv' := [(6, .int x1), (0, .ref v0), (1, .ref v1), (2, .int v2), (3, .int v3), (4, .int v4), (5, .int v5)]) (st' := []) rfl ?_
  exact xZ.sub (xsc (.tail _ (.head _)) (xsc (.tail _ (.tail _ (.head _))) (xsc (.tail _ (.tail _ (.tail _ (.head _)))) (xsc (.tail _ (.tail _ (.tail _ (.tail _ (.head _))))) (xsc (.tail _ (.tail _ (.tail _ (.tail _ (.tail _ (.head _)))))) (xsc (.tail _ (.tail _ (.tail _ (.tail _ (.tail _ (.tail _ (.head _))))))) (xsc (.head _) xsn))))))) (show ([6, 0, 1, 2, 3, 4, 5] : List Nat).Nodup from by decide) (hK59 v0 v1 v2 v3 v4 v5 x1 M1)
def f_LDates_ctor_153 (O : Nat → Option va_E) (f : Nat) (K59 : Nat → Nat → Int32 → Int32 → Int32 → Int32 → Int32 → xM → Option (Unit × xM)) (v0 : Nat) (v1 : Nat) (v2 : Int32) (v3 : Int32) (v4 : Int32) (v5 : Int32) (v6 : Int32) (v7 : Int32) (v8 : Int32) (M : xM) : Option (Unit × xM) :=
  (gR O M v0 13 0).bind fun x1 =>
  (wI M x1 v8 v5).bind fun M1 =>
  (gR O M1 v0 13 1).bind fun x2 =>
  (wI M1 x2 v8 v6).bind fun M2 =>
  (gR O M2 v0 13 2).bind fun x3 =>
  (wI M2 x3 v8 v7).bind fun M3 =>
  (gR O M3 v0 13 3).bind fun x4 =>
  (isO O M3 v1 12).bind fun _ =>
  xcl (f_Calendarhall_seriesAt O f v1 v5 (3 : Int32) M3) fun x5 M4 =>
  (wI M4 x4 v8 x5).bind fun M5 =>
  (gI O M5 v0 13 4).bind fun x6 =>
  (pI M5 v0 13 4 (x6 + (1 : Int32))).bind fun M6 =>
  f_LDates_ctor_204 O f K59 v0 v1 v2 v3 v4 v5 v6 M6
set_option maxRecDepth 20000 in
theorem k_f_LDates_ctor_153 (O : Nat → Option va_E) (f d : Nat) (K59 : Nat → Nat → Int32 → Int32 → Int32 → Int32 → Int32 → xM → Option (Unit × xM)) (hK59 : ∀ (v0 : Nat) (v1 : Nat) (v2 : Int32) (v3 : Int32) (v4 : Int32) (v5 : Int32) (v6 : Int32) M, xZ oU O (d + 6) 152 59 [(0, .ref v0), (1, .ref v1), (2, .int v2), (3, .int v3), (4, .int v4), (5, .int v5), (6, .int v6)] [] M (K59 v0 v1 v2 v3 v4 v5 v6 M)) (v0 : Nat) (v1 : Nat) (v2 : Int32) (v3 : Int32) (v4 : Int32) (v5 : Int32) (v6 : Int32) (v7 : Int32) (v8 : Int32) (M : xM) : xZ oU O (d + 6) 152 153 [(0, .ref v0), (1, .ref v1), (2, .int v2), (3, .int v3), (4, .int v4), (5, .int v5), (6, .int v6), (7, .int v7), (8, .int v8)] [] M (f_LDates_ctor_153 O f K59 v0 v1 v2 v3 v4 v5 v6 v7 v8 M) := by
  unfold f_LDates_ctor_153
  refine xZ.adv (me := xm152) hP_152 1 (pc' := 154) (lv' := [(0, .ref v0), (1, .ref v1), (2, .int v2), (3, .int v3), (4, .int v4), (5, .int v5), (6, .int v6), (7, .int v7), (8, .int v8)]) (st' := [.ref v0]) rfl ?_
  refine xZ.k_gR (me := xm152) hP_152 rfl (fun x1 => ?_)
  refine xZ.adv (me := xm152) hP_152 2 (pc' := 161) (lv' := [(0, .ref v0), (1, .ref v1), (2, .int v2), (3, .int v3), (4, .int v4), (5, .int v5), (6, .int v6), (7, .int v7), (8, .int v8)]) (st' := [.int v5, .int v8, .ref x1]) rfl ?_
  refine xZ.k_wI (me := xm152) hP_152 rfl (fun M1 => ?_)
  refine xZ.adv (me := xm152) hP_152 1 (pc' := 163) (lv' := [(0, .ref v0), (1, .ref v1), (2, .int v2), (3, .int v3), (4, .int v4), (5, .int v5), (6, .int v6), (7, .int v7), (8, .int v8)]) (st' := [.ref v0]) rfl ?_
  refine xZ.k_gR (me := xm152) hP_152 rfl (fun x2 => ?_)
  refine xZ.adv (me := xm152) hP_152 2 (pc' := 170) (lv' := [(0, .ref v0), (1, .ref v1), (2, .int v2), (3, .int v3), (4, .int v4), (5, .int v5), (6, .int v6), (7, .int v7), (8, .int v8)]) (st' := [.int v6, .int v8, .ref x2]) rfl ?_
  refine xZ.k_wI (me := xm152) hP_152 rfl (fun M2 => ?_)
  refine xZ.adv (me := xm152) hP_152 1 (pc' := 172) (lv' := [(0, .ref v0), (1, .ref v1), (2, .int v2), (3, .int v3), (4, .int v4), (5, .int v5), (6, .int v6), (7, .int v7), (8, .int v8)]) (st' := [.ref v0]) rfl ?_
  refine xZ.k_gR (me := xm152) hP_152 rfl (fun x3 => ?_)
  refine xZ.adv (me := xm152) hP_152 2 (pc' := 179) (lv' := [(0, .ref v0), (1, .ref v1), (2, .int v2), (3, .int v3), (4, .int v4), (5, .int v5), (6, .int v6), (7, .int v7), (8, .int v8)]) (st' := [.int v7, .int v8, .ref x3]) rfl ?_
  refine xZ.k_wI (me := xm152) hP_152 rfl (fun M3 => ?_)
  refine xZ.adv (me := xm152) hP_152 1 (pc' := 181) (lv' := [(0, .ref v0), (1, .ref v1), (2, .int v2), (3, .int v3), (4, .int v4), (5, .int v5), (6, .int v6), (7, .int v7), (8, .int v8)]) (st' := [.ref v0]) rfl ?_
  refine xZ.k_gR (me := xm152) hP_152 rfl (fun x4 => ?_)
  refine xZ.adv (me := xm152) hP_152 4 (pc' := 190) (lv' := [(0, .ref v0), (1, .ref v1), (2, .int v2), (3, .int v3), (4, .int v4), (5, .int v5), (6, .int v6), (7, .int v7), (8, .int v8)]) (st' := [.int (3 : Int32), .int v5, .ref v1, .int v8, .ref x4]) rfl ?_
  refine xZ.callv (κ := oI) (av := [.int v5, .int (3 : Int32)]) (rest := [.int v8, .ref x4]) (st' := fun x5 => [.int x5, .int v8, .ref x4]) (k0 := v1) (me := xm152) hP_152 rfl (Or.inl rfl) ⟨rfl, by decide⟩ rfl rfl (Nat.le_of_ble_eq_true rfl) (by decide) hP_126 (Nat.le_of_ble_eq_true rfl) (fun _ => rfl) (k_f_Calendarhall_seriesAt O f (d + 3) v1 v5 (3 : Int32) M3) (fun x5 M4 => ?_)
  refine xZ.k_wI (me := xm152) hP_152 rfl (fun M5 => ?_)
  refine xZ.adv (me := xm152) hP_152 2 (pc' := 196) (lv' := [(0, .ref v0), (1, .ref v1), (2, .int v2), (3, .int v3), (4, .int v4), (5, .int v5), (6, .int v6), (7, .int v7), (8, .int v8)]) (st' := [.ref v0, .ref v0]) rfl ?_
  refine xZ.k_gI (me := xm152) hP_152 rfl (fun x6 => ?_)
  refine xZ.adv (me := xm152) hP_152 2 (pc' := 201) (lv' := [(0, .ref v0), (1, .ref v1), (2, .int v2), (3, .int v3), (4, .int v4), (5, .int v5), (6, .int v6), (7, .int v7), (8, .int v8)]) (st' := [.int (x6 + (1 : Int32)), .ref v0]) rfl ?_
  refine xZ.k_pI (me := xm152) hP_152 rfl (fun M6 => ?_)
  exact xZ.sub (xsc (.head _) (xsc (.tail _ (.head _)) (xsc (.tail _ (.tail _ (.head _))) (xsc (.tail _ (.tail _ (.tail _ (.head _)))) (xsc (.tail _ (.tail _ (.tail _ (.tail _ (.head _))))) (xsc (.tail _ (.tail _ (.tail _ (.tail _ (.tail _ (.head _)))))) (xsc (.tail _ (.tail _ (.tail _ (.tail _ (.tail _ (.tail _ (.head _))))))) xsn))))))) (show ([0, 1, 2, 3, 4, 5, 6, 7, 8] : List Nat).Nodup from by decide) (k_f_LDates_ctor_204 O f d K59 hK59 v0 v1 v2 v3 v4 v5 v6 M6)
def f_LDates_ctor_118 (O : Nat → Option va_E) (f : Nat) (K59 : Nat → Nat → Int32 → Int32 → Int32 → Int32 → Int32 → xM → Option (Unit × xM)) : Nat → Nat → Nat → Int32 → Int32 → Int32 → Int32 → Int32 → Int32 → Int32 → xM → Option (Unit × xM)
  | 0, _, _, _, _, _, _, _, _, _, _ => none
  | n + 1, v0, v1, v2, v3, v4, v5, v6, v7, v8, M =>
    if v8 ≤ 0 then (
      f_LDates_ctor_153 O f K59 v0 v1 v2 v3 v4 v5 v6 v7 v8 M
    ) else
    (gR O M v0 13 2).bind fun x1 =>
    (aI O M x1 (v8 - (1 : Int32))).bind fun x2 =>
    if x2 ≤ v7 then (
      f_LDates_ctor_153 O f K59 v0 v1 v2 v3 v4 v5 v6 v7 v8 M
    ) else
    (isO O M v0 13).bind fun _ =>
    xcl (f_LDates_copies O f v0 (v8 - (1 : Int32)) v8 M) fun _ M1 =>
    f_LDates_ctor_118 O f K59 n v0 v1 v2 v3 v4 v5 v6 v7 (v8 + (-1 : Int32)) M1
set_option maxRecDepth 20000 in
theorem k_f_LDates_ctor_118 (O : Nat → Option va_E) (f d : Nat) (K59 : Nat → Nat → Int32 → Int32 → Int32 → Int32 → Int32 → xM → Option (Unit × xM)) (hK59 : ∀ (v0 : Nat) (v1 : Nat) (v2 : Int32) (v3 : Int32) (v4 : Int32) (v5 : Int32) (v6 : Int32) M, xZ oU O (d + 6) 152 59 [(0, .ref v0), (1, .ref v1), (2, .int v2), (3, .int v3), (4, .int v4), (5, .int v5), (6, .int v6)] [] M (K59 v0 v1 v2 v3 v4 v5 v6 M)) : ∀ (n : Nat) (v0 : Nat) (v1 : Nat) (v2 : Int32) (v3 : Int32) (v4 : Int32) (v5 : Int32) (v6 : Int32) (v7 : Int32) (v8 : Int32) (M : xM), xZ oU O (d + 6) 152 118 [(0, .ref v0), (1, .ref v1), (2, .int v2), (3, .int v3), (4, .int v4), (5, .int v5), (6, .int v6), (7, .int v7), (8, .int v8)] [] M (f_LDates_ctor_118 O f K59 n v0 v1 v2 v3 v4 v5 v6 v7 v8 M) := by
  intro n
  induction n with
  | zero =>
    intro v0 v1 v2 v3 v4 v5 v6 v7 v8 M
    exact xZ.no
  | succ n ih =>
    intro v0 v1 v2 v3 v4 v5 v6 v7 v8 M
    unfold f_LDates_ctor_118
    refine xZ.adv (me := xm152) hP_152 1 (pc' := 120) (lv' := [(0, .ref v0), (1, .ref v1), (2, .int v2), (3, .int v3), (4, .int v4), (5, .int v5), (6, .int v6), (7, .int v7), (8, .int v8)]) (st' := [.int v8]) rfl ?_
    refine xZ.if_le (me := xm152) hP_152 rfl (fun h1 => ?_) (fun h1 => ?_)
    · skip
      exact (k_f_LDates_ctor_153 O f d K59 hK59 v0 v1 v2 v3 v4 v5 v6 v7 v8 M)
    · skip
      refine xZ.adv (me := xm152) hP_152 1 (pc' := 124) (lv' := [(0, .ref v0), (1, .ref v1), (2, .int v2), (3, .int v3), (4, .int v4), (5, .int v5), (6, .int v6), (7, .int v7), (8, .int v8)]) (st' := [.ref v0]) rfl ?_
      refine xZ.k_gR (me := xm152) hP_152 rfl (fun x1 => ?_)
      refine xZ.adv (me := xm152) hP_152 3 (pc' := 131) (lv' := [(0, .ref v0), (1, .ref v1), (2, .int v2), (3, .int v3), (4, .int v4), (5, .int v5), (6, .int v6), (7, .int v7), (8, .int v8)]) (st' := [.int (v8 - (1 : Int32)), .ref x1]) rfl ?_
      refine xZ.k_aI (me := xm152) hP_152 rfl (fun x2 => ?_)
      refine xZ.adv (me := xm152) hP_152 1 (pc' := 134) (lv' := [(0, .ref v0), (1, .ref v1), (2, .int v2), (3, .int v3), (4, .int v4), (5, .int v5), (6, .int v6), (7, .int v7), (8, .int v8)]) (st' := [.int v7, .int x2]) rfl ?_
      refine xZ.ic_le (me := xm152) hP_152 rfl (fun h2 => ?_) (fun h2 => ?_)
      · skip
        exact (k_f_LDates_ctor_153 O f d K59 hK59 v0 v1 v2 v3 v4 v5 v6 v7 v8 M)
      · skip
        refine xZ.adv (me := xm152) hP_152 5 (pc' := 144) (lv' := [(0, .ref v0), (1, .ref v1), (2, .int v2), (3, .int v3), (4, .int v4), (5, .int v5), (6, .int v6), (7, .int v7), (8, .int v8)]) (st' := [.int v8, .int (v8 - (1 : Int32)), .ref v0]) rfl ?_
        refine xZ.callv (κ := oU) (av := [.int (v8 - (1 : Int32)), .int v8]) (rest := []) (st' := fun _ => []) (k0 := v0) (me := xm152) hP_152 rfl (Or.inl rfl) ⟨rfl, by decide⟩ rfl rfl (Nat.le_of_ble_eq_true rfl) (by decide) hP_153 (Nat.le_of_ble_eq_true rfl) (fun _ => rfl) (k_f_LDates_copies O f (d + 5) v0 (v8 - (1 : Int32)) v8 M) (fun _ M1 => ?_)
        refine xZ.adv (me := xm152) hP_152 2 (pc' := 118) (lv' := [(8, .int (v8 + (-1 : Int32))), (0, .ref v0), (1, .ref v1), (2, .int v2), (3, .int v3), (4, .int v4), (5, .int v5), (6, .int v6), (7, .int v7)]) (st' := []) rfl ?_
        exact xZ.sub (xsc (.tail _ (.head _)) (xsc (.tail _ (.tail _ (.head _))) (xsc (.tail _ (.tail _ (.tail _ (.head _)))) (xsc (.tail _ (.tail _ (.tail _ (.tail _ (.head _))))) (xsc (.tail _ (.tail _ (.tail _ (.tail _ (.tail _ (.head _)))))) (xsc (.tail _ (.tail _ (.tail _ (.tail _ (.tail _ (.tail _ (.head _))))))) (xsc (.tail _ (.tail _ (.tail _ (.tail _ (.tail _ (.tail _ (.tail _ (.head _)))))))) (xsc (.tail _ (.tail _ (.tail _ (.tail _ (.tail _ (.tail _ (.tail _ (.tail _ (.head _))))))))) (xsc (.head _) xsn))))))))) (show ([8, 0, 1, 2, 3, 4, 5, 6, 7] : List Nat).Nodup from by decide) (ih v0 v1 v2 v3 v4 v5 v6 v7 (v8 + (-1 : Int32)) M1)
def f_LDates_ctor_59 (O : Nat → Option va_E) (f : Nat) (K43 : Nat → Nat → Int32 → Int32 → Int32 → Int32 → xM → Option (Unit × xM)) : Nat → Nat → Nat → Int32 → Int32 → Int32 → Int32 → Int32 → xM → Option (Unit × xM)
  | 0, _, _, _, _, _, _, _, _ => none
  | n + 1, v0, v1, v2, v3, v4, v5, v6, M =>
    if v6 = (-1 : Int32) then (
      K43 v0 v1 v2 v3 v4 (v5 + (1 : Int32)) M
    ) else
    if (v4 + (6000 : Int32)) ≤ ((1440 : Int32) * v6) then (
      K43 v0 v1 v2 v3 v4 (v5 + (1 : Int32)) M
    ) else
    (isO O M v1 12).bind fun _ =>
    xcl (f_Calendarhall_begin O f v1 v5 v6 M) fun x1 M1 =>
    if x1 = (-1 : Int32) then (
      f_LDates_ctor_204 O f (f_LDates_ctor_59 O f K43 n) v0 v1 v2 v3 v4 v5 v6 M1
    ) else
    if x1 < v3 then (
      f_LDates_ctor_204 O f (f_LDates_ctor_59 O f K43 n) v0 v1 v2 v3 v4 v5 v6 M1
    ) else
    if x1 < v4 then (
      (gI O M1 v0 13 4).bind fun x2 =>
      f_LDates_ctor_118 O f (f_LDates_ctor_59 O f K43 n) f v0 v1 v2 v3 v4 v5 v6 x1 x2 M1
    ) else
    f_LDates_ctor_204 O f (f_LDates_ctor_59 O f K43 n) v0 v1 v2 v3 v4 v5 v6 M1
set_option maxRecDepth 20000 in
theorem k_f_LDates_ctor_59 (O : Nat → Option va_E) (f d : Nat) (K43 : Nat → Nat → Int32 → Int32 → Int32 → Int32 → xM → Option (Unit × xM)) (hK43 : ∀ (v0 : Nat) (v1 : Nat) (v2 : Int32) (v3 : Int32) (v4 : Int32) (v5 : Int32) M, xZ oU O (d + 6) 152 43 [(0, .ref v0), (1, .ref v1), (2, .int v2), (3, .int v3), (4, .int v4), (5, .int v5)] [] M (K43 v0 v1 v2 v3 v4 v5 M)) : ∀ (n : Nat) (v0 : Nat) (v1 : Nat) (v2 : Int32) (v3 : Int32) (v4 : Int32) (v5 : Int32) (v6 : Int32) (M : xM), xZ oU O (d + 6) 152 59 [(0, .ref v0), (1, .ref v1), (2, .int v2), (3, .int v3), (4, .int v4), (5, .int v5), (6, .int v6)] [] M (f_LDates_ctor_59 O f K43 n v0 v1 v2 v3 v4 v5 v6 M) := by
  intro n
  induction n with
  | zero =>
    intro v0 v1 v2 v3 v4 v5 v6 M
    exact xZ.no
  | succ n ih =>
    intro v0 v1 v2 v3 v4 v5 v6 M
    unfold f_LDates_ctor_59
    refine xZ.adv (me := xm152) hP_152 2 (pc' := 62) (lv' := [(0, .ref v0), (1, .ref v1), (2, .int v2), (3, .int v3), (4, .int v4), (5, .int v5), (6, .int v6)]) (st' := [.int (-1 : Int32), .int v6]) rfl ?_
    refine xZ.ic_eq (me := xm152) hP_152 rfl (fun h1 => ?_) (fun h1 => ?_)
    · skip
      refine xZ.adv (me := xm152) hP_152 2 (pc' := 43) (lv' := [(5, .int (v5 + (1 : Int32))), (0, .ref v0), (1, .ref v1), (2, .int v2), (3, .int v3), (4, .int v4), (6, .int v6)]) (st' := []) rfl ?_
      exact xZ.sub (xsc (.tail _ (.head _)) (xsc (.tail _ (.tail _ (.head _))) (xsc (.tail _ (.tail _ (.tail _ (.head _)))) (xsc (.tail _ (.tail _ (.tail _ (.tail _ (.head _))))) (xsc (.tail _ (.tail _ (.tail _ (.tail _ (.tail _ (.head _)))))) (xsc (.head _) xsn)))))) (show ([5, 0, 1, 2, 3, 4, 6] : List Nat).Nodup from by decide) (hK43 v0 v1 v2 v3 v4 (v5 + (1 : Int32)) M)
    · skip
      refine xZ.adv (me := xm152) hP_152 6 (pc' := 77) (lv' := [(0, .ref v0), (1, .ref v1), (2, .int v2), (3, .int v3), (4, .int v4), (5, .int v5), (6, .int v6)]) (st' := [.int (v4 + (6000 : Int32)), .int ((1440 : Int32) * v6)]) rfl ?_
      refine xZ.ic_ge (me := xm152) hP_152 rfl (fun h2 => ?_) (fun h2 => ?_)
      · skip
        refine xZ.adv (me := xm152) hP_152 2 (pc' := 43) (lv' := [(5, .int (v5 + (1 : Int32))), (0, .ref v0), (1, .ref v1), (2, .int v2), (3, .int v3), (4, .int v4), (6, .int v6)]) (st' := []) rfl ?_
        exact xZ.sub (xsc (.tail _ (.head _)) (xsc (.tail _ (.tail _ (.head _))) (xsc (.tail _ (.tail _ (.tail _ (.head _)))) (xsc (.tail _ (.tail _ (.tail _ (.tail _ (.head _))))) (xsc (.tail _ (.tail _ (.tail _ (.tail _ (.tail _ (.head _)))))) (xsc (.head _) xsn)))))) (show ([5, 0, 1, 2, 3, 4, 6] : List Nat).Nodup from by decide) (hK43 v0 v1 v2 v3 v4 (v5 + (1 : Int32)) M)
      · skip
        refine xZ.adv (me := xm152) hP_152 3 (pc' := 85) (lv' := [(0, .ref v0), (1, .ref v1), (2, .int v2), (3, .int v3), (4, .int v4), (5, .int v5), (6, .int v6)]) (st' := [.int v6, .int v5, .ref v1]) rfl ?_
        refine xZ.callv (κ := oI) (av := [.int v5, .int v6]) (rest := []) (st' := fun x1 => [.int x1]) (k0 := v1) (me := xm152) hP_152 rfl (Or.inl rfl) ⟨rfl, by decide⟩ rfl rfl (Nat.le_of_ble_eq_true rfl) (by decide) hP_98 (Nat.le_of_ble_eq_true rfl) (fun _ => rfl) (k_f_Calendarhall_begin O f (d + 0) v1 v5 v6 M) (fun x1 M1 => ?_)
        refine xZ.adv (me := xm152) hP_152 3 (pc' := 93) (lv' := [(7, .int x1), (0, .ref v0), (1, .ref v1), (2, .int v2), (3, .int v3), (4, .int v4), (5, .int v5), (6, .int v6)]) (st' := [.int (-1 : Int32), .int x1]) rfl ?_
        refine xZ.ic_eq (me := xm152) hP_152 rfl (fun h3 => ?_) (fun h3 => ?_)
        · skip
          exact xZ.sub (xsc (.tail _ (.head _)) (xsc (.tail _ (.tail _ (.head _))) (xsc (.tail _ (.tail _ (.tail _ (.head _)))) (xsc (.tail _ (.tail _ (.tail _ (.tail _ (.head _))))) (xsc (.tail _ (.tail _ (.tail _ (.tail _ (.tail _ (.head _)))))) (xsc (.tail _ (.tail _ (.tail _ (.tail _ (.tail _ (.tail _ (.head _))))))) (xsc (.tail _ (.tail _ (.tail _ (.tail _ (.tail _ (.tail _ (.tail _ (.head _)))))))) xsn))))))) (show ([7, 0, 1, 2, 3, 4, 5, 6] : List Nat).Nodup from by decide) (k_f_LDates_ctor_204 O f d (f_LDates_ctor_59 O f K43 n) ih v0 v1 v2 v3 v4 v5 v6 M1)
        · skip
          refine xZ.adv (me := xm152) hP_152 2 (pc' := 99) (lv' := [(7, .int x1), (0, .ref v0), (1, .ref v1), (2, .int v2), (3, .int v3), (4, .int v4), (5, .int v5), (6, .int v6)]) (st' := [.int v3, .int x1]) rfl ?_
          refine xZ.ic_lt (me := xm152) hP_152 rfl (fun h4 => ?_) (fun h4 => ?_)
          · skip
            exact xZ.sub (xsc (.tail _ (.head _)) (xsc (.tail _ (.tail _ (.head _))) (xsc (.tail _ (.tail _ (.tail _ (.head _)))) (xsc (.tail _ (.tail _ (.tail _ (.tail _ (.head _))))) (xsc (.tail _ (.tail _ (.tail _ (.tail _ (.tail _ (.head _)))))) (xsc (.tail _ (.tail _ (.tail _ (.tail _ (.tail _ (.tail _ (.head _))))))) (xsc (.tail _ (.tail _ (.tail _ (.tail _ (.tail _ (.tail _ (.tail _ (.head _)))))))) xsn))))))) (show ([7, 0, 1, 2, 3, 4, 5, 6] : List Nat).Nodup from by decide) (k_f_LDates_ctor_204 O f d (f_LDates_ctor_59 O f K43 n) ih v0 v1 v2 v3 v4 v5 v6 M1)
          · skip
            refine xZ.adv (me := xm152) hP_152 2 (pc' := 106) (lv' := [(7, .int x1), (0, .ref v0), (1, .ref v1), (2, .int v2), (3, .int v3), (4, .int v4), (5, .int v5), (6, .int v6)]) (st' := [.int v4, .int x1]) rfl ?_
            refine xZ.ic_lt (me := xm152) hP_152 rfl (fun h5 => ?_) (fun h5 => ?_)
            · skip
              refine xZ.adv (me := xm152) hP_152 1 (pc' := 113) (lv' := [(7, .int x1), (0, .ref v0), (1, .ref v1), (2, .int v2), (3, .int v3), (4, .int v4), (5, .int v5), (6, .int v6)]) (st' := [.ref v0]) rfl ?_
              refine xZ.k_gI (me := xm152) hP_152 rfl (fun x2 => ?_)
              refine xZ.adv (me := xm152) hP_152 1 (pc' := 118) (lv' := [(8, .int x2), (7, .int x1), (0, .ref v0), (1, .ref v1), (2, .int v2), (3, .int v3), (4, .int v4), (5, .int v5), (6, .int v6)]) (st' := []) rfl ?_
              exact xZ.sub (xsc (.tail _ (.tail _ (.head _))) (xsc (.tail _ (.tail _ (.tail _ (.head _)))) (xsc (.tail _ (.tail _ (.tail _ (.tail _ (.head _))))) (xsc (.tail _ (.tail _ (.tail _ (.tail _ (.tail _ (.head _)))))) (xsc (.tail _ (.tail _ (.tail _ (.tail _ (.tail _ (.tail _ (.head _))))))) (xsc (.tail _ (.tail _ (.tail _ (.tail _ (.tail _ (.tail _ (.tail _ (.head _)))))))) (xsc (.tail _ (.tail _ (.tail _ (.tail _ (.tail _ (.tail _ (.tail _ (.tail _ (.head _))))))))) (xsc (.tail _ (.head _)) (xsc (.head _) xsn))))))))) (show ([8, 7, 0, 1, 2, 3, 4, 5, 6] : List Nat).Nodup from by decide) (k_f_LDates_ctor_118 O f d (f_LDates_ctor_59 O f K43 n) ih f v0 v1 v2 v3 v4 v5 v6 x1 x2 M1)
            · skip
              refine xZ.adv (me := xm152) hP_152 1 (pc' := 204) (lv' := [(7, .int x1), (0, .ref v0), (1, .ref v1), (2, .int v2), (3, .int v3), (4, .int v4), (5, .int v5), (6, .int v6)]) (st' := []) rfl ?_
              exact xZ.sub (xsc (.tail _ (.head _)) (xsc (.tail _ (.tail _ (.head _))) (xsc (.tail _ (.tail _ (.tail _ (.head _)))) (xsc (.tail _ (.tail _ (.tail _ (.tail _ (.head _))))) (xsc (.tail _ (.tail _ (.tail _ (.tail _ (.tail _ (.head _)))))) (xsc (.tail _ (.tail _ (.tail _ (.tail _ (.tail _ (.tail _ (.head _))))))) (xsc (.tail _ (.tail _ (.tail _ (.tail _ (.tail _ (.tail _ (.tail _ (.head _)))))))) xsn))))))) (show ([7, 0, 1, 2, 3, 4, 5, 6] : List Nat).Nodup from by decide) (k_f_LDates_ctor_204 O f d (f_LDates_ctor_59 O f K43 n) ih v0 v1 v2 v3 v4 v5 v6 M1)
def f_LDates_ctor_43 (O : Nat → Option va_E) (f : Nat) : Nat → Nat → Nat → Int32 → Int32 → Int32 → Int32 → xM → Option (Unit × xM)
  | 0, _, _, _, _, _, _, _ => none
  | n + 1, v0, v1, v2, v3, v4, v5, M =>
    if v2 ≤ v5 then (
      some ((), M)
    ) else
    (isO O M v1 12).bind fun _ =>
    xcl (f_Calendarhall_nextDay O f v1 v5 (10 : Int32) M) fun x1 M1 =>
    f_LDates_ctor_59 O f (f_LDates_ctor_43 O f n) f v0 v1 v2 v3 v4 v5 x1 M1
set_option maxRecDepth 20000 in
theorem k_f_LDates_ctor_43 (O : Nat → Option va_E) (f d : Nat) : ∀ (n : Nat) (v0 : Nat) (v1 : Nat) (v2 : Int32) (v3 : Int32) (v4 : Int32) (v5 : Int32) (M : xM), xZ oU O (d + 6) 152 43 [(0, .ref v0), (1, .ref v1), (2, .int v2), (3, .int v3), (4, .int v4), (5, .int v5)] [] M (f_LDates_ctor_43 O f n v0 v1 v2 v3 v4 v5 M) := by
  intro n
  induction n with
  | zero =>
    intro v0 v1 v2 v3 v4 v5 M
    exact xZ.no
  | succ n ih =>
    intro v0 v1 v2 v3 v4 v5 M
    unfold f_LDates_ctor_43
    refine xZ.adv (me := xm152) hP_152 2 (pc' := 46) (lv' := [(0, .ref v0), (1, .ref v1), (2, .int v2), (3, .int v3), (4, .int v4), (5, .int v5)]) (st' := [.int v2, .int v5]) rfl ?_
    refine xZ.ic_ge (me := xm152) hP_152 rfl (fun h1 => ?_) (fun h1 => ?_)
    · skip
      exact xZ.retu (me := xm152) hP_152 rfl rfl
    · skip
      refine xZ.adv (me := xm152) hP_152 3 (pc' := 54) (lv' := [(0, .ref v0), (1, .ref v1), (2, .int v2), (3, .int v3), (4, .int v4), (5, .int v5)]) (st' := [.int (10 : Int32), .int v5, .ref v1]) rfl ?_
      refine xZ.callv (κ := oI) (av := [.int v5, .int (10 : Int32)]) (rest := []) (st' := fun x1 => [.int x1]) (k0 := v1) (me := xm152) hP_152 rfl (Or.inl rfl) ⟨rfl, by decide⟩ rfl rfl (Nat.le_of_ble_eq_true rfl) (by decide) hP_91 (Nat.le_of_ble_eq_true rfl) (fun _ => rfl) (k_f_Calendarhall_nextDay O f (d + 0) v1 v5 (10 : Int32) M) (fun x1 M1 => ?_)
      refine xZ.adv (me := xm152) hP_152 1 (pc' := 59) (lv' := [(6, .int x1), (0, .ref v0), (1, .ref v1), (2, .int v2), (3, .int v3), (4, .int v4), (5, .int v5)]) (st' := []) rfl ?_
      exact xZ.sub (xsc (.tail _ (.head _)) (xsc (.tail _ (.tail _ (.head _))) (xsc (.tail _ (.tail _ (.tail _ (.head _)))) (xsc (.tail _ (.tail _ (.tail _ (.tail _ (.head _))))) (xsc (.tail _ (.tail _ (.tail _ (.tail _ (.tail _ (.head _)))))) (xsc (.tail _ (.tail _ (.tail _ (.tail _ (.tail _ (.tail _ (.head _))))))) (xsc (.head _) xsn))))))) (show ([6, 0, 1, 2, 3, 4, 5] : List Nat).Nodup from by decide) (k_f_LDates_ctor_59 O f d (f_LDates_ctor_43 O f n) ih f v0 v1 v2 v3 v4 v5 x1 M1)
def f_LDates_ctor (O : Nat → Option va_E) (f : Nat) (v0 : Nat) (v1 : Nat) (v2 : Int32) (v3 : Int32) (v4 : Int32) (M : xM) : Option (Unit × xM) :=
  xcl (nA M 0 (300 : Int32)) fun x1 M1 =>
  (pR M1 v0 13 0 (some x1)).bind fun M2 =>
  xcl (nA M2 0 (300 : Int32)) fun x2 M3 =>
  (pR M3 v0 13 1 (some x2)).bind fun M4 =>
  xcl (nA M4 0 (300 : Int32)) fun x3 M5 =>
  (pR M5 v0 13 2 (some x3)).bind fun M6 =>
  xcl (nA M6 0 (300 : Int32)) fun x4 M7 =>
  (pR M7 v0 13 3 (some x4)).bind fun M8 =>
  f_LDates_ctor_43 O f f v0 v1 v2 v3 v4 (0 : Int32) M8
set_option maxRecDepth 20000 in
theorem k_f_LDates_ctor (O : Nat → Option va_E) (f d : Nat) (v0 : Nat) (v1 : Nat) (v2 : Int32) (v3 : Int32) (v4 : Int32) (M : xM) : xZ oU O (d + 6) 152 0 [(0, .ref v0), (1, .ref v1), (2, .int v2), (3, .int v3), (4, .int v4)] [] M (f_LDates_ctor O f v0 v1 v2 v3 v4 M) := by
  unfold f_LDates_ctor
  refine xZ.adv (me := xm152) hP_152 1 (pc' := 1) (lv' := [(0, .ref v0), (1, .ref v1), (2, .int v2), (3, .int v3), (4, .int v4)]) (st' := [.ref v0]) rfl ?_
  refine xZ.obj (me := xm152) hP_152 rfl (Nat.le_of_ble_eq_true rfl) ?_
  refine xZ.adv (me := xm152) hP_152 2 (pc' := 8) (lv' := [(0, .ref v0), (1, .ref v1), (2, .int v2), (3, .int v3), (4, .int v4)]) (st' := [.int (300 : Int32), .ref v0]) rfl ?_
  refine xZ.k_nA (me := xm152) hP_152 rfl rfl (by decide) (fun x1 M1 => ?_)
  refine xZ.k_pR (x := (some x1)) (me := xm152) hP_152 rfl (fun M2 => ?_)
  refine xZ.adv (me := xm152) hP_152 2 (pc' := 17) (lv' := [(0, .ref v0), (1, .ref v1), (2, .int v2), (3, .int v3), (4, .int v4)]) (st' := [.int (300 : Int32), .ref v0]) rfl ?_
  refine xZ.k_nA (me := xm152) hP_152 rfl rfl (by decide) (fun x2 M3 => ?_)
  refine xZ.k_pR (x := (some x2)) (me := xm152) hP_152 rfl (fun M4 => ?_)
  refine xZ.adv (me := xm152) hP_152 2 (pc' := 26) (lv' := [(0, .ref v0), (1, .ref v1), (2, .int v2), (3, .int v3), (4, .int v4)]) (st' := [.int (300 : Int32), .ref v0]) rfl ?_
  refine xZ.k_nA (me := xm152) hP_152 rfl rfl (by decide) (fun x3 M5 => ?_)
  refine xZ.k_pR (x := (some x3)) (me := xm152) hP_152 rfl (fun M6 => ?_)
  refine xZ.adv (me := xm152) hP_152 2 (pc' := 35) (lv' := [(0, .ref v0), (1, .ref v1), (2, .int v2), (3, .int v3), (4, .int v4)]) (st' := [.int (300 : Int32), .ref v0]) rfl ?_
  refine xZ.k_nA (me := xm152) hP_152 rfl rfl (by decide) (fun x4 M7 => ?_)
  refine xZ.k_pR (x := (some x4)) (me := xm152) hP_152 rfl (fun M8 => ?_)
  refine xZ.adv (me := xm152) hP_152 2 (pc' := 43) (lv' := [(5, .int (0 : Int32)), (0, .ref v0), (1, .ref v1), (2, .int v2), (3, .int v3), (4, .int v4)]) (st' := []) rfl ?_
  exact xZ.sub (xsc (.tail _ (.head _)) (xsc (.tail _ (.tail _ (.head _))) (xsc (.tail _ (.tail _ (.tail _ (.head _)))) (xsc (.tail _ (.tail _ (.tail _ (.tail _ (.head _))))) (xsc (.tail _ (.tail _ (.tail _ (.tail _ (.tail _ (.head _)))))) (xsc (.head _) xsn)))))) (show ([5, 0, 1, 2, 3, 4] : List Nat).Nodup from by decide) (k_f_LDates_ctor_43 O f d f v0 v1 v2 v3 v4 (0 : Int32) M8)
def f_LDates_end (O : Nat → Option va_E) (f : Nat) (v0 : Nat) (v1 : Int32) (M : xM) : Option (Int32 × xM) :=
  (gR O M v0 13 2).bind fun x1 =>
  (aI O M x1 v1).bind fun x2 =>
  (gR O M v0 13 3).bind fun x3 =>
  (aI O M x3 v1).bind fun x4 =>
  some ((x2 + x4), M)
set_option maxRecDepth 20000 in
theorem k_f_LDates_end (O : Nat → Option va_E) (f d : Nat) (v0 : Nat) (v1 : Int32) (M : xM) : xZ oI O (d + 0) 154 0 [(0, .ref v0), (1, .int v1)] [] M (f_LDates_end O f v0 v1 M) := by
  unfold f_LDates_end
  refine xZ.adv (me := xm154) hP_154 1 (pc' := 1) (lv' := [(0, .ref v0), (1, .int v1)]) (st' := [.ref v0]) rfl ?_
  refine xZ.k_gR (me := xm154) hP_154 rfl (fun x1 => ?_)
  refine xZ.adv (me := xm154) hP_154 1 (pc' := 5) (lv' := [(0, .ref v0), (1, .int v1)]) (st' := [.int v1, .ref x1]) rfl ?_
  refine xZ.k_aI (me := xm154) hP_154 rfl (fun x2 => ?_)
  refine xZ.adv (me := xm154) hP_154 1 (pc' := 7) (lv' := [(0, .ref v0), (1, .int v1)]) (st' := [.ref v0, .int x2]) rfl ?_
  refine xZ.k_gR (me := xm154) hP_154 rfl (fun x3 => ?_)
  refine xZ.adv (me := xm154) hP_154 1 (pc' := 11) (lv' := [(0, .ref v0), (1, .int v1)]) (st' := [.int v1, .ref x3, .int x2]) rfl ?_
  refine xZ.k_aI (me := xm154) hP_154 rfl (fun x4 => ?_)
  refine xZ.adv (me := xm154) hP_154 1 (pc' := 13) (lv' := [(0, .ref v0), (1, .int v1)]) (st' := [.int (x2 + x4)]) rfl ?_
  exact xZ.reti (me := xm154) hP_154 rfl rfl
def f_Calendarhall_answerOf (O : Nat → Option va_E) (f : Nat) (v0 : Nat) (v1 : Int32) (v2 : Int32) (M : xM) : Option (Int32 × xM) :=
  (isO O M v0 12).bind fun _ =>
  xcl (f_Calendarhall_seriesNumbered O f v0 v1 M) fun x1 M1 =>
  (isO O M1 v0 12).bind fun _ =>
  xcl (f_Calendarhall_personNumbered O f v0 v2 M1) fun x2 M2 =>
  (isO O M2 x1 10).bind fun _ =>
  xcl (f_Series_isInvited O f x1 v2 M2) fun x3 M3 =>
  if x3 = 0 then (
    some ((-1 : Int32), M3)
  ) else
  (isO O M3 x1 10).bind fun _ =>
  xcl (f_Series_answerBy O f x1 v2 M3) fun x4 M4 =>
  some (x4, M4)
set_option maxRecDepth 20000 in
theorem k_f_Calendarhall_answerOf (O : Nat → Option va_E) (f d : Nat) (v0 : Nat) (v1 : Int32) (v2 : Int32) (M : xM) : xZ oI O (d + 2) 156 0 [(0, .ref v0), (1, .int v1), (2, .int v2)] [] M (f_Calendarhall_answerOf O f v0 v1 v2 M) := by
  unfold f_Calendarhall_answerOf
  refine xZ.adv (me := xm156) hP_156 2 (pc' := 2) (lv' := [(0, .ref v0), (1, .int v1), (2, .int v2)]) (st' := [.int v1, .ref v0]) rfl ?_
  refine xZ.callv (κ := oR) (av := [.int v1]) (rest := []) (st' := fun x1 => [.ref x1]) (k0 := v0) (me := xm156) hP_156 rfl (Or.inl rfl) ⟨rfl, by decide⟩ rfl rfl (Nat.le_of_ble_eq_true rfl) (by decide) hP_79 (Nat.le_of_ble_eq_true rfl) (fun _ => rfl) (k_f_Calendarhall_seriesNumbered O f (d + 0) v0 v1 M) (fun x1 M1 => ?_)
  refine xZ.adv (me := xm156) hP_156 3 (pc' := 8) (lv' := [(3, .ref x1), (0, .ref v0), (1, .int v1), (2, .int v2)]) (st' := [.int v2, .ref v0]) rfl ?_
  refine xZ.callv (κ := oR) (av := [.int v2]) (rest := []) (st' := fun x2 => [.ref x2]) (k0 := v0) (me := xm156) hP_156 rfl (Or.inl rfl) ⟨rfl, by decide⟩ rfl rfl (Nat.le_of_ble_eq_true rfl) (by decide) hP_148 (Nat.le_of_ble_eq_true rfl) (fun _ => rfl) (k_f_Calendarhall_personNumbered O f (d + 0) v0 v2 M1) (fun x2 M2 => ?_)
  refine xZ.adv (me := xm156) hP_156 3 (pc' := 14) (lv' := [(3, .ref x1), (0, .ref v0), (1, .int v1), (2, .int v2)]) (st' := [.int v2, .ref x1]) rfl ?_
  refine xZ.callv (κ := oI) (av := [.int v2]) (rest := []) (st' := fun x3 => [.int x3]) (k0 := x1) (me := xm156) hP_156 rfl (Or.inl rfl) ⟨rfl, by decide⟩ rfl rfl (Nat.le_of_ble_eq_true rfl) (by decide) hP_149 (Nat.le_of_ble_eq_true rfl) (fun _ => rfl) (k_f_Series_isInvited O f (d + 1) x1 v2 M2) (fun x3 M3 => ?_)
  refine xZ.if_eq (me := xm156) hP_156 rfl (fun h1 => ?_) (fun h1 => ?_)
  · skip
    refine xZ.adv (me := xm156) hP_156 1 (pc' := 29) (lv' := [(3, .ref x1), (0, .ref v0), (1, .int v1), (2, .int v2)]) (st' := [.int (-1 : Int32)]) rfl ?_
    exact xZ.reti (me := xm156) hP_156 rfl rfl
  · skip
    refine xZ.adv (me := xm156) hP_156 2 (pc' := 22) (lv' := [(3, .ref x1), (0, .ref v0), (1, .int v1), (2, .int v2)]) (st' := [.int v2, .ref x1]) rfl ?_
    refine xZ.callv (κ := oI) (av := [.int v2]) (rest := []) (st' := fun x4 => [.int x4]) (k0 := x1) (me := xm156) hP_156 rfl (Or.inl rfl) ⟨rfl, by decide⟩ rfl rfl (Nat.le_of_ble_eq_true rfl) (by decide) hP_150 (Nat.le_of_ble_eq_true rfl) (fun _ => rfl) (k_f_Series_answerBy O f (d + 1) x1 v2 M3) (fun x4 M4 => ?_)
    refine xZ.adv (me := xm156) hP_156 1 (pc' := 29) (lv' := [(3, .ref x1), (0, .ref v0), (1, .int v1), (2, .int v2)]) (st' := [.int x4]) rfl ?_
    exact xZ.reti (me := xm156) hP_156 rfl rfl
def f_Law_takesPart (O : Nat → Option va_E) (f : Nat) (v0 : Nat) (v1 : Int32) (v2 : Int32) (M : xM) : Option (Int32 × xM) :=
  (isO O M v0 12).bind fun _ =>
  xcl (f_Calendarhall_seriesAt O f v0 v1 (4 : Int32) M) fun x1 M1 =>
  if ((x1 >>> (v2 &&& 31)) &&& (1 : Int32)) = (1 : Int32) then (
    (isO O M1 v0 12).bind fun _ =>
    xcl (f_Calendarhall_answerOf O f v0 v1 v2 M1) fun x2 M2 =>
    if x2 = (2 : Int32) then (
      some ((0 : Int32), M2)
    ) else
    some ((1 : Int32), M2)
  ) else
  some ((0 : Int32), M1)
set_option maxRecDepth 20000 in
theorem k_f_Law_takesPart (O : Nat → Option va_E) (f d : Nat) (v0 : Nat) (v1 : Int32) (v2 : Int32) (M : xM) : xZ oI O (d + 3) 155 0 [(0, .ref v0), (1, .int v1), (2, .int v2)] [] M (f_Law_takesPart O f v0 v1 v2 M) := by
  unfold f_Law_takesPart
  refine xZ.adv (me := xm155) hP_155 3 (pc' := 3) (lv' := [(0, .ref v0), (1, .int v1), (2, .int v2)]) (st' := [.int (4 : Int32), .int v1, .ref v0]) rfl ?_
  refine xZ.callv (κ := oI) (av := [.int v1, .int (4 : Int32)]) (rest := []) (st' := fun x1 => [.int x1]) (k0 := v0) (me := xm155) hP_155 rfl (Or.inl rfl) ⟨rfl, by decide⟩ rfl rfl (Nat.le_of_ble_eq_true rfl) (by decide) hP_126 (Nat.le_of_ble_eq_true rfl) (fun _ => rfl) (k_f_Calendarhall_seriesAt O f (d + 0) v0 v1 (4 : Int32) M) (fun x1 M1 => ?_)
  refine xZ.adv (me := xm155) hP_155 5 (pc' := 11) (lv' := [(0, .ref v0), (1, .int v1), (2, .int v2)]) (st' := [.int (1 : Int32), .int ((x1 >>> (v2 &&& 31)) &&& (1 : Int32))]) rfl ?_
  refine xZ.ic_ne (me := xm155) hP_155 rfl (fun h1 => ?_) (fun h1 => ?_)
  · skip
    refine xZ.adv (me := xm155) hP_155 3 (pc' := 17) (lv' := [(0, .ref v0), (1, .int v1), (2, .int v2)]) (st' := [.int v2, .int v1, .ref v0]) rfl ?_
    refine xZ.callv (κ := oI) (av := [.int v1, .int v2]) (rest := []) (st' := fun x2 => [.int x2]) (k0 := v0) (me := xm155) hP_155 rfl (Or.inl rfl) ⟨rfl, by decide⟩ rfl rfl (Nat.le_of_ble_eq_true rfl) (by decide) hP_156 (Nat.le_of_ble_eq_true rfl) (fun _ => rfl) (k_f_Calendarhall_answerOf O f (d + 0) v0 v1 v2 M1) (fun x2 M2 => ?_)
    refine xZ.adv (me := xm155) hP_155 1 (pc' := 21) (lv' := [(0, .ref v0), (1, .int v1), (2, .int v2)]) (st' := [.int (2 : Int32), .int x2]) rfl ?_
    refine xZ.ic_eq (me := xm155) hP_155 rfl (fun h2 => ?_) (fun h2 => ?_)
    · skip
      refine xZ.adv (me := xm155) hP_155 1 (pc' := 29) (lv' := [(0, .ref v0), (1, .int v1), (2, .int v2)]) (st' := [.int (0 : Int32)]) rfl ?_
      exact xZ.rete (me := xm155) hP_155 rfl rfl rfl
    · skip
      refine xZ.adv (me := xm155) hP_155 2 (pc' := 29) (lv' := [(0, .ref v0), (1, .int v1), (2, .int v2)]) (st' := [.int (1 : Int32)]) rfl ?_
      exact xZ.rete (me := xm155) hP_155 rfl rfl rfl
  · skip
    refine xZ.adv (me := xm155) hP_155 1 (pc' := 29) (lv' := [(0, .ref v0), (1, .int v1), (2, .int v2)]) (st' := [.int (0 : Int32)]) rfl ?_
    exact xZ.rete (me := xm155) hP_155 rfl rfl rfl
def f_Series_takers_7 (O : Nat → Option va_E) (f : Nat) : Nat → Nat → Int32 → Int32 → xM → Option (Int32 × xM)
  | 0, _, _, _, _ => none
  | n + 1, v0, v1, v2, M =>
    (gR O M v0 10 10).bind fun x1 =>
    (aN O M x1).bind fun x2 =>
    if x2 ≤ v2 then (
      some (v1, M)
    ) else
    (gR O M v0 10 10).bind fun x3 =>
    (aI O M x3 v2).bind fun x4 =>
    if x4 = (2 : Int32) then (
      xlet (v1 &&& (((1 : Int32) <<< (v2 &&& 31)) ^^^ (-1 : Int32))) fun x5 =>
      f_Series_takers_7 O f n v0 x5 (v2 + (1 : Int32)) M
    ) else
    f_Series_takers_7 O f n v0 v1 (v2 + (1 : Int32)) M
set_option maxRecDepth 20000 in
theorem k_f_Series_takers_7 (O : Nat → Option va_E) (f d : Nat) : ∀ (n : Nat) (v0 : Nat) (v1 : Int32) (v2 : Int32) (M : xM), xZ oI O (d + 0) 159 7 [(0, .ref v0), (1, .int v1), (2, .int v2)] [] M (f_Series_takers_7 O f n v0 v1 v2 M) := by
  intro n
  induction n with
  | zero =>
    intro v0 v1 v2 M
    exact xZ.no
  | succ n ih =>
    intro v0 v1 v2 M
    unfold f_Series_takers_7
    refine xZ.adv (me := xm159) hP_159 2 (pc' := 9) (lv' := [(0, .ref v0), (1, .int v1), (2, .int v2)]) (st' := [.ref v0, .int v2]) rfl ?_
    refine xZ.k_gR (me := xm159) hP_159 rfl (fun x1 => ?_)
    refine xZ.k_aN (me := xm159) hP_159 rfl (fun x2 => ?_)
    refine xZ.ic_ge (me := xm159) hP_159 rfl (fun h1 => ?_) (fun h1 => ?_)
    · skip
      refine xZ.adv (me := xm159) hP_159 1 (pc' := 41) (lv' := [(0, .ref v0), (1, .int v1), (2, .int v2)]) (st' := [.int v1]) rfl ?_
      exact xZ.reti (me := xm159) hP_159 rfl rfl
    · skip
      refine xZ.adv (me := xm159) hP_159 1 (pc' := 17) (lv' := [(0, .ref v0), (1, .int v1), (2, .int v2)]) (st' := [.ref v0]) rfl ?_
      refine xZ.k_gR (me := xm159) hP_159 rfl (fun x3 => ?_)
      refine xZ.adv (me := xm159) hP_159 1 (pc' := 21) (lv' := [(0, .ref v0), (1, .int v1), (2, .int v2)]) (st' := [.int v2, .ref x3]) rfl ?_
      refine xZ.k_aI (me := xm159) hP_159 rfl (fun x4 => ?_)
      refine xZ.adv (me := xm159) hP_159 1 (pc' := 23) (lv' := [(0, .ref v0), (1, .int v1), (2, .int v2)]) (st' := [.int (2 : Int32), .int x4]) rfl ?_
      refine xZ.ic_ne (me := xm159) hP_159 rfl (fun h2 => ?_) (fun h2 => ?_)
      · skip
        refine xZ.adv (me := xm159) hP_159 8 (pc' := 34) (lv' := [(1, .int (v1 &&& (((1 : Int32) <<< (v2 &&& 31)) ^^^ (-1 : Int32)))), (0, .ref v0), (2, .int v2)]) (st' := []) rfl ?_
        refine xZ.letI (v := (v1 &&& (((1 : Int32) <<< (v2 &&& 31)) ^^^ (-1 : Int32)))) (lvf := fun x5 => [(1, .int x5), (0, .ref v0), (2, .int v2)]) (stf := fun x5 => []) ?_
        intro x5
        refine xZ.adv (me := xm159) hP_159 2 (pc' := 7) (lv' := [(2, .int (v2 + (1 : Int32))), (1, .int x5), (0, .ref v0)]) (st' := []) rfl ?_
        exact xZ.sub (xsc (.tail _ (.tail _ (.head _))) (xsc (.tail _ (.head _)) (xsc (.head _) xsn))) (show ([2, 1, 0] : List Nat).Nodup from by decide) (ih v0 x5 (v2 + (1 : Int32)) M)
      · skip
        refine xZ.adv (me := xm159) hP_159 2 (pc' := 7) (lv' := [(2, .int (v2 + (1 : Int32))), (0, .ref v0), (1, .int v1)]) (st' := []) rfl ?_
        exact xZ.sub (xsc (.tail _ (.head _)) (xsc (.tail _ (.tail _ (.head _))) (xsc (.head _) xsn))) (show ([2, 0, 1] : List Nat).Nodup from by decide) (ih v0 v1 (v2 + (1 : Int32)) M)
def f_Series_takers (O : Nat → Option va_E) (f : Nat) (v0 : Nat) (M : xM) : Option (Int32 × xM) :=
  (gI O M v0 10 4).bind fun x1 =>
  f_Series_takers_7 O f f v0 x1 (0 : Int32) M
set_option maxRecDepth 20000 in
theorem k_f_Series_takers (O : Nat → Option va_E) (f d : Nat) (v0 : Nat) (M : xM) : xZ oI O (d + 0) 159 0 [(0, .ref v0)] [] M (f_Series_takers O f v0 M) := by
  unfold f_Series_takers
  refine xZ.adv (me := xm159) hP_159 1 (pc' := 1) (lv' := [(0, .ref v0)]) (st' := [.ref v0]) rfl ?_
  refine xZ.k_gI (me := xm159) hP_159 rfl (fun x1 => ?_)
  refine xZ.adv (me := xm159) hP_159 3 (pc' := 7) (lv' := [(2, .int (0 : Int32)), (1, .int x1), (0, .ref v0)]) (st' := []) rfl ?_
  exact xZ.sub (xsc (.tail _ (.tail _ (.head _))) (xsc (.tail _ (.head _)) (xsc (.head _) xsn))) (show ([2, 1, 0] : List Nat).Nodup from by decide) (k_f_Series_takers_7 O f d f v0 x1 (0 : Int32) M)
def f_Hall_seriesOf_4 (O : Nat → Option va_E) (f : Nat) : Nat → Nat → Int32 → Int32 → Int32 → xM → Option (Int32 × xM)
  | 0, _, _, _, _, _ => none
  | n + 1, v0, v1, v2, v3, M =>
    (gR O M v0 4 3).bind fun x1 =>
    (aN O M x1).bind fun x2 =>
    if x2 ≤ v3 then (
      some (v2, M)
    ) else
    (gR O M v0 4 3).bind fun x3 =>
    (aR O M x3 v3).bind fun x4 =>
    (gI O M x4 10 0).bind fun x5 =>
    if x5 = 0 then (
      f_Hall_seriesOf_4 O f n v0 v1 v2 (v3 + (1 : Int32)) M
    ) else
    (gR O M v0 4 3).bind fun x6 =>
    (aR O M x6 v3).bind fun x7 =>
    (isO O M x7 10).bind fun _ =>
    xcl (f_Series_takers O f x7 M) fun x8 M1 =>
    if (x8 &&& v1) = 0 then (
      f_Hall_seriesOf_4 O f n v0 v1 v2 (v3 + (1 : Int32)) M1
    ) else
    xlet (v2 ||| ((1 : Int32) <<< (v3 &&& 31))) fun x9 =>
    f_Hall_seriesOf_4 O f n v0 v1 x9 (v3 + (1 : Int32)) M1
set_option maxRecDepth 20000 in
theorem k_f_Hall_seriesOf_4 (O : Nat → Option va_E) (f d : Nat) : ∀ (n : Nat) (v0 : Nat) (v1 : Int32) (v2 : Int32) (v3 : Int32) (M : xM), xZ oI O (d + 1) 158 4 [(0, .ref v0), (1, .int v1), (2, .int v2), (3, .int v3)] [] M (f_Hall_seriesOf_4 O f n v0 v1 v2 v3 M) := by
  intro n
  induction n with
  | zero =>
    intro v0 v1 v2 v3 M
    exact xZ.no
  | succ n ih =>
    intro v0 v1 v2 v3 M
    unfold f_Hall_seriesOf_4
    refine xZ.adv (me := xm158) hP_158 2 (pc' := 6) (lv' := [(0, .ref v0), (1, .int v1), (2, .int v2), (3, .int v3)]) (st' := [.ref v0, .int v3]) rfl ?_
    refine xZ.k_gR (me := xm158) hP_158 rfl (fun x1 => ?_)
    refine xZ.k_aN (me := xm158) hP_158 rfl (fun x2 => ?_)
    refine xZ.ic_ge (me := xm158) hP_158 rfl (fun h1 => ?_) (fun h1 => ?_)
    · skip
      refine xZ.adv (me := xm158) hP_158 1 (pc' := 52) (lv' := [(0, .ref v0), (1, .int v1), (2, .int v2), (3, .int v3)]) (st' := [.int v2]) rfl ?_
      exact xZ.reti (me := xm158) hP_158 rfl rfl
    · skip
      refine xZ.adv (me := xm158) hP_158 1 (pc' := 14) (lv' := [(0, .ref v0), (1, .int v1), (2, .int v2), (3, .int v3)]) (st' := [.ref v0]) rfl ?_
      refine xZ.k_gR (me := xm158) hP_158 rfl (fun x3 => ?_)
      refine xZ.adv (me := xm158) hP_158 1 (pc' := 18) (lv' := [(0, .ref v0), (1, .int v1), (2, .int v2), (3, .int v3)]) (st' := [.int v3, .ref x3]) rfl ?_
      refine xZ.k_aR (me := xm158) hP_158 rfl (fun x4 => ?_)
      refine xZ.k_gI (me := xm158) hP_158 rfl (fun x5 => ?_)
      refine xZ.if_eq (me := xm158) hP_158 rfl (fun h2 => ?_) (fun h2 => ?_)
      · skip
        refine xZ.adv (me := xm158) hP_158 2 (pc' := 4) (lv' := [(3, .int (v3 + (1 : Int32))), (0, .ref v0), (1, .int v1), (2, .int v2)]) (st' := []) rfl ?_
        exact xZ.sub (xsc (.tail _ (.head _)) (xsc (.tail _ (.tail _ (.head _))) (xsc (.tail _ (.tail _ (.tail _ (.head _)))) (xsc (.head _) xsn)))) (show ([3, 0, 1, 2] : List Nat).Nodup from by decide) (ih v0 v1 v2 (v3 + (1 : Int32)) M)
      · skip
        refine xZ.adv (me := xm158) hP_158 1 (pc' := 26) (lv' := [(0, .ref v0), (1, .int v1), (2, .int v2), (3, .int v3)]) (st' := [.ref v0]) rfl ?_
        refine xZ.k_gR (me := xm158) hP_158 rfl (fun x6 => ?_)
        refine xZ.adv (me := xm158) hP_158 1 (pc' := 30) (lv' := [(0, .ref v0), (1, .int v1), (2, .int v2), (3, .int v3)]) (st' := [.int v3, .ref x6]) rfl ?_
        refine xZ.k_aR (me := xm158) hP_158 rfl (fun x7 => ?_)
        refine xZ.callv (κ := oI) (av := []) (rest := []) (st' := fun x8 => [.int x8]) (k0 := x7) (me := xm158) hP_158 rfl (Or.inl rfl) ⟨rfl, by decide⟩ rfl rfl (Nat.le_of_ble_eq_true rfl) (by decide) hP_159 (Nat.le_of_ble_eq_true rfl) (fun _ => rfl) (k_f_Series_takers O f (d + 0) x7 M) (fun x8 M1 => ?_)
        refine xZ.adv (me := xm158) hP_158 2 (pc' := 36) (lv' := [(0, .ref v0), (1, .int v1), (2, .int v2), (3, .int v3)]) (st' := [.int (x8 &&& v1)]) rfl ?_
        refine xZ.if_eq (me := xm158) hP_158 rfl (fun h3 => ?_) (fun h3 => ?_)
        · skip
          refine xZ.adv (me := xm158) hP_158 2 (pc' := 4) (lv' := [(3, .int (v3 + (1 : Int32))), (0, .ref v0), (1, .int v1), (2, .int v2)]) (st' := []) rfl ?_
          exact xZ.sub (xsc (.tail _ (.head _)) (xsc (.tail _ (.tail _ (.head _))) (xsc (.tail _ (.tail _ (.tail _ (.head _)))) (xsc (.head _) xsn)))) (show ([3, 0, 1, 2] : List Nat).Nodup from by decide) (ih v0 v1 v2 (v3 + (1 : Int32)) M1)
        · skip
          refine xZ.adv (me := xm158) hP_158 6 (pc' := 45) (lv' := [(2, .int (v2 ||| ((1 : Int32) <<< (v3 &&& 31)))), (0, .ref v0), (1, .int v1), (3, .int v3)]) (st' := []) rfl ?_
          refine xZ.letI (v := (v2 ||| ((1 : Int32) <<< (v3 &&& 31)))) (lvf := fun x9 => [(2, .int x9), (0, .ref v0), (1, .int v1), (3, .int v3)]) (stf := fun x9 => []) ?_
          intro x9
          refine xZ.adv (me := xm158) hP_158 2 (pc' := 4) (lv' := [(3, .int (v3 + (1 : Int32))), (2, .int x9), (0, .ref v0), (1, .int v1)]) (st' := []) rfl ?_
          exact xZ.sub (xsc (.tail _ (.tail _ (.head _))) (xsc (.tail _ (.tail _ (.tail _ (.head _)))) (xsc (.tail _ (.head _)) (xsc (.head _) xsn)))) (show ([3, 2, 0, 1] : List Nat).Nodup from by decide) (ih v0 v1 x9 (v3 + (1 : Int32)) M1)
def f_Hall_seriesOf (O : Nat → Option va_E) (f : Nat) (v0 : Nat) (v1 : Int32) (M : xM) : Option (Int32 × xM) :=
  f_Hall_seriesOf_4 O f f v0 v1 (0 : Int32) (0 : Int32) M
set_option maxRecDepth 20000 in
theorem k_f_Hall_seriesOf (O : Nat → Option va_E) (f d : Nat) (v0 : Nat) (v1 : Int32) (M : xM) : xZ oI O (d + 1) 158 0 [(0, .ref v0), (1, .int v1)] [] M (f_Hall_seriesOf O f v0 v1 M) := by
  unfold f_Hall_seriesOf
  refine xZ.adv (me := xm158) hP_158 4 (pc' := 4) (lv' := [(3, .int (0 : Int32)), (2, .int (0 : Int32)), (0, .ref v0), (1, .int v1)]) (st' := []) rfl ?_
  exact xZ.sub (xsc (.tail _ (.tail _ (.head _))) (xsc (.tail _ (.tail _ (.tail _ (.head _)))) (xsc (.tail _ (.head _)) (xsc (.head _) xsn)))) (show ([3, 2, 0, 1] : List Nat).Nodup from by decide) (k_f_Hall_seriesOf_4 O f d f v0 v1 (0 : Int32) (0 : Int32) M)
def f_Calendarhall_datesAt_27 (O : Nat → Option va_E) (f : Nat) : Nat → Nat → Int32 → Int32 → Int32 → Int32 → xM → Option (Int32 × xM)
  | 0, _, _, _, _, _, _ => none
  | n + 1, v0, v2, v3, v4, v5, M =>
    if (12 : Int32) ≤ v5 then (
      some (v4, M)
    ) else
    (gR O M v0 12 0).bind fun x1 =>
    (isO O M x1 4).bind fun _ =>
    xcl (f_Hall_anySeries O f x1 v5 M) fun x2 M1 =>
    if ((v3 >>> (v5 &&& 31)) &&& (1 : Int32)) = (1 : Int32) then (
      (gR O M1 v0 12 0).bind fun x3 =>
      (isO O M1 x3 4).bind fun _ =>
      xcl (f_Hall_zoneOf O f x3 x2 M1) fun x4 M2 =>
      (gI O M2 x2 10 3).bind fun x5 =>
      (isO O M2 x2 10).bind fun _ =>
      xcl (f_Series_countBegins O f x2 x4 ((v2 - x5) + (1 : Int32)) (v2 + (1 : Int32)) M2) fun x6 M3 =>
      f_Calendarhall_datesAt_27 O f n v0 v2 v3 (v4 + x6) (v5 + (1 : Int32)) M3
    ) else
    f_Calendarhall_datesAt_27 O f n v0 v2 v3 v4 (v5 + (1 : Int32)) M1
set_option maxRecDepth 20000 in
theorem k_f_Calendarhall_datesAt_27 (O : Nat → Option va_E) (f d : Nat) : ∀ (n : Nat) (v0 : Nat) (v2 : Int32) (v3 : Int32) (v4 : Int32) (v5 : Int32) (M : xM), xZ oI O (d + 6) 157 27 [(0, .ref v0), (2, .int v2), (3, .int v3), (4, .int v4), (5, .int v5)] [] M (f_Calendarhall_datesAt_27 O f n v0 v2 v3 v4 v5 M) := by
  intro n
  induction n with
  | zero =>
    intro v0 v2 v3 v4 v5 M
    exact xZ.no
  | succ n ih =>
    intro v0 v2 v3 v4 v5 M
    unfold f_Calendarhall_datesAt_27
    refine xZ.adv (me := xm157) hP_157 2 (pc' := 31) (lv' := [(0, .ref v0), (2, .int v2), (3, .int v3), (4, .int v4), (5, .int v5)]) (st' := [.int (12 : Int32), .int v5]) rfl ?_
    refine xZ.ic_ge (me := xm157) hP_157 rfl (fun h1 => ?_) (fun h1 => ?_)
    · skip
      refine xZ.adv (me := xm157) hP_157 1 (pc' := 94) (lv' := [(0, .ref v0), (2, .int v2), (3, .int v3), (4, .int v4), (5, .int v5)]) (st' := [.int v4]) rfl ?_
      exact xZ.reti (me := xm157) hP_157 rfl rfl
    · skip
      refine xZ.adv (me := xm157) hP_157 1 (pc' := 35) (lv' := [(0, .ref v0), (2, .int v2), (3, .int v3), (4, .int v4), (5, .int v5)]) (st' := [.ref v0]) rfl ?_
      refine xZ.k_gR (me := xm157) hP_157 rfl (fun x1 => ?_)
      refine xZ.adv (me := xm157) hP_157 1 (pc' := 40) (lv' := [(0, .ref v0), (2, .int v2), (3, .int v3), (4, .int v4), (5, .int v5)]) (st' := [.int v5, .ref x1]) rfl ?_
      refine xZ.callv (κ := oR) (av := [.int v5]) (rest := []) (st' := fun x2 => [.ref x2]) (k0 := x1) (me := xm157) hP_157 rfl (Or.inl rfl) ⟨rfl, by decide⟩ rfl rfl (Nat.le_of_ble_eq_true rfl) (by decide) hP_29 (Nat.le_of_ble_eq_true rfl) (fun _ => rfl) (k_f_Hall_anySeries O f (d + 5) x1 v5 M) (fun x2 M1 => ?_)
      refine xZ.adv (me := xm157) hP_157 7 (pc' := 52) (lv' := [(6, .ref x2), (0, .ref v0), (2, .int v2), (3, .int v3), (4, .int v4), (5, .int v5)]) (st' := [.int (1 : Int32), .int ((v3 >>> (v5 &&& 31)) &&& (1 : Int32))]) rfl ?_
      refine xZ.ic_ne (me := xm157) hP_157 rfl (fun h2 => ?_) (fun h2 => ?_)
      · skip
        refine xZ.adv (me := xm157) hP_157 3 (pc' := 60) (lv' := [(6, .ref x2), (0, .ref v0), (2, .int v2), (3, .int v3), (4, .int v4), (5, .int v5)]) (st' := [.ref v0, .ref x2, .int v4]) rfl ?_
        refine xZ.k_gR (me := xm157) hP_157 rfl (fun x3 => ?_)
        refine xZ.adv (me := xm157) hP_157 1 (pc' := 65) (lv' := [(6, .ref x2), (0, .ref v0), (2, .int v2), (3, .int v3), (4, .int v4), (5, .int v5)]) (st' := [.ref x2, .ref x3, .ref x2, .int v4]) rfl ?_
        refine xZ.callv (κ := oR) (av := [.ref x2]) (rest := [.ref x2, .int v4]) (st' := fun x4 => [.ref x4, .ref x2, .int v4]) (k0 := x3) (me := xm157) hP_157 rfl (Or.inl rfl) ⟨rfl, by decide⟩ rfl rfl (Nat.le_of_ble_eq_true rfl) (by decide) hP_102 (Nat.le_of_ble_eq_true rfl) (fun _ => rfl) (k_f_Hall_zoneOf O f (d + 4) x3 x2 M1) (fun x4 M2 => ?_)
        refine xZ.adv (me := xm157) hP_157 2 (pc' := 71) (lv' := [(6, .ref x2), (0, .ref v0), (2, .int v2), (3, .int v3), (4, .int v4), (5, .int v5)]) (st' := [.ref x2, .int v2, .ref x4, .ref x2, .int v4]) rfl ?_
        refine xZ.k_gI (me := xm157) hP_157 rfl (fun x5 => ?_)
        refine xZ.adv (me := xm157) hP_157 6 (pc' := 80) (lv' := [(6, .ref x2), (0, .ref v0), (2, .int v2), (3, .int v3), (4, .int v4), (5, .int v5)]) (st' := [.int (v2 + (1 : Int32)), .int ((v2 - x5) + (1 : Int32)), .ref x4, .ref x2, .int v4]) rfl ?_
        refine xZ.callv (κ := oI) (av := [.ref x4, .int ((v2 - x5) + (1 : Int32)), .int (v2 + (1 : Int32))]) (rest := [.int v4]) (st' := fun x6 => [.int x6, .int v4]) (k0 := x2) (me := xm157) hP_157 rfl (Or.inl rfl) ⟨rfl, by decide⟩ rfl rfl (Nat.le_of_ble_eq_true rfl) (by decide) hP_116 (Nat.le_of_ble_eq_true rfl) (fun _ => rfl) (k_f_Series_countBegins O f (d + 0) x2 x4 ((v2 - x5) + (1 : Int32)) (v2 + (1 : Int32)) M2) (fun x6 M3 => ?_)
        refine xZ.adv (me := xm157) hP_157 4 (pc' := 27) (lv' := [(5, .int (v5 + (1 : Int32))), (4, .int (v4 + x6)), (6, .ref x2), (0, .ref v0), (2, .int v2), (3, .int v3)]) (st' := []) rfl ?_
        exact xZ.sub (xsc (.tail _ (.tail _ (.tail _ (.head _)))) (xsc (.tail _ (.tail _ (.tail _ (.tail _ (.head _))))) (xsc (.tail _ (.tail _ (.tail _ (.tail _ (.tail _ (.head _)))))) (xsc (.tail _ (.head _)) (xsc (.head _) xsn))))) (show ([5, 4, 6, 0, 2, 3] : List Nat).Nodup from by decide) (ih v0 v2 v3 (v4 + x6) (v5 + (1 : Int32)) M3)
      · skip
        refine xZ.adv (me := xm157) hP_157 2 (pc' := 27) (lv' := [(5, .int (v5 + (1 : Int32))), (6, .ref x2), (0, .ref v0), (2, .int v2), (3, .int v3), (4, .int v4)]) (st' := []) rfl ?_
        exact xZ.sub (xsc (.tail _ (.tail _ (.head _))) (xsc (.tail _ (.tail _ (.tail _ (.head _)))) (xsc (.tail _ (.tail _ (.tail _ (.tail _ (.head _))))) (xsc (.tail _ (.tail _ (.tail _ (.tail _ (.tail _ (.head _)))))) (xsc (.head _) xsn))))) (show ([5, 6, 0, 2, 3, 4] : List Nat).Nodup from by decide) (ih v0 v2 v3 v4 (v5 + (1 : Int32)) M1)
def f_Calendarhall_datesAt (O : Nat → Option va_E) (f : Nat) (v0 : Nat) (v1 : Int32) (v2 : Int32) (M : xM) : Option (Int32 × xM) :=
  (isO O M v0 12).bind fun _ =>
  xcl (f_Calendarhall_personNumbered O f v0 v1 M) fun x1 M1 =>
  xcl (f_Calendarhall_needMinute O f v2 M1) fun _ M2 =>
  (gR O M2 v0 12 0).bind fun x3 =>
  (isO O M2 x3 4).bind fun _ =>
  xcl (f_Hall_seriesOf O f x3 ((1 : Int32) <<< (v1 &&& 31)) M2) fun x4 M3 =>
  f_Calendarhall_datesAt_27 O f f v0 v2 x4 (0 : Int32) (0 : Int32) M3
set_option maxRecDepth 20000 in
theorem k_f_Calendarhall_datesAt (O : Nat → Option va_E) (f d : Nat) (v0 : Nat) (v1 : Int32) (v2 : Int32) (M : xM) : xZ oI O (d + 6) 157 0 [(0, .ref v0), (1, .int v1), (2, .int v2)] [] M (f_Calendarhall_datesAt O f v0 v1 v2 M) := by
  unfold f_Calendarhall_datesAt
  refine xZ.adv (me := xm157) hP_157 2 (pc' := 2) (lv' := [(0, .ref v0), (1, .int v1), (2, .int v2)]) (st' := [.int v1, .ref v0]) rfl ?_
  refine xZ.callv (κ := oR) (av := [.int v1]) (rest := []) (st' := fun x1 => [.ref x1]) (k0 := v0) (me := xm157) hP_157 rfl (Or.inl rfl) ⟨rfl, by decide⟩ rfl rfl (Nat.le_of_ble_eq_true rfl) (by decide) hP_148 (Nat.le_of_ble_eq_true rfl) (fun _ => rfl) (k_f_Calendarhall_personNumbered O f (d + 4) v0 v1 M) (fun x1 M1 => ?_)
  refine xZ.adv (me := xm157) hP_157 2 (pc' := 7) (lv' := [(0, .ref v0), (1, .int v1), (2, .int v2)]) (st' := [.int v2]) rfl ?_
  refine xZ.calls (κ := oU) (av := [.int v2]) (rest := []) (st' := fun _ => []) (me := xm157) hP_157 rfl rfl rfl (Nat.le_of_ble_eq_true rfl) (by decide) hP_115 (Nat.le_of_ble_eq_true rfl) (fun _ => rfl) (k_f_Calendarhall_needMinute O f (d + 5) v2 M1) (fun _ M2 => ?_)
  refine xZ.adv (me := xm157) hP_157 1 (pc' := 11) (lv' := [(0, .ref v0), (1, .int v1), (2, .int v2)]) (st' := [.ref v0]) rfl ?_
  refine xZ.k_gR (me := xm157) hP_157 rfl (fun x3 => ?_)
  refine xZ.adv (me := xm157) hP_157 3 (pc' := 17) (lv' := [(0, .ref v0), (1, .int v1), (2, .int v2)]) (st' := [.int ((1 : Int32) <<< (v1 &&& 31)), .ref x3]) rfl ?_
  refine xZ.callv (κ := oI) (av := [.int ((1 : Int32) <<< (v1 &&& 31))]) (rest := []) (st' := fun x4 => [.int x4]) (k0 := x3) (me := xm157) hP_157 rfl (Or.inl rfl) ⟨rfl, by decide⟩ rfl rfl (Nat.le_of_ble_eq_true rfl) (by decide) hP_158 (Nat.le_of_ble_eq_true rfl) (fun _ => rfl) (k_f_Hall_seriesOf O f (d + 4) x3 ((1 : Int32) <<< (v1 &&& 31)) M2) (fun x4 M3 => ?_)
  refine xZ.adv (me := xm157) hP_157 5 (pc' := 27) (lv' := [(5, .int (0 : Int32)), (4, .int (0 : Int32)), (3, .int x4), (0, .ref v0), (1, .int v1), (2, .int v2)]) (st' := []) rfl ?_
  exact xZ.sub (xsc (.tail _ (.tail _ (.tail _ (.head _)))) (xsc (.tail _ (.tail _ (.tail _ (.tail _ (.tail _ (.head _)))))) (xsc (.tail _ (.tail _ (.head _))) (xsc (.tail _ (.head _)) (xsc (.head _) xsn))))) (show ([5, 4, 3, 0, 1, 2] : List Nat).Nodup from by decide) (k_f_Calendarhall_datesAt_27 O f d f v0 v2 x4 (0 : Int32) (0 : Int32) M3)
def f_Law_isWork (O : Nat → Option va_E) (f : Nat) (v0 : Nat) (v1 : Int32) (M : xM) : Option (Int32 × xM) :=
  (aI O M v0 (1 : Int32)).bind fun x1 =>
  if ((x1 >>> ((((v1 / (1440 : Int32)) + (5 : Int32)) - ((v1 / (1440 : Int32)) + (5 : Int32)) / (7 : Int32) * (7 : Int32)) &&& 31)) &&& (1 : Int32)) = (1 : Int32) then (
    (aI O M v0 (2 : Int32)).bind fun x2 =>
    if (v1 - v1 / (1440 : Int32) * (1440 : Int32)) < x2 then (
      some ((0 : Int32), M)
    ) else
    (aI O M v0 (3 : Int32)).bind fun x3 =>
    if x3 ≤ (v1 - v1 / (1440 : Int32) * (1440 : Int32)) then (
      some ((0 : Int32), M)
    ) else
    some ((1 : Int32), M)
  ) else
  some ((0 : Int32), M)
set_option maxRecDepth 20000 in
theorem k_f_Law_isWork (O : Nat → Option va_E) (f d : Nat) (v0 : Nat) (v1 : Int32) (M : xM) : xZ oI O (d + 0) 160 0 [(0, .ref v0), (1, .int v1)] [] M (f_Law_isWork O f v0 v1 M) := by
  unfold f_Law_isWork
  refine xZ.adv (me := xm160) hP_160 2 (pc' := 2) (lv' := [(0, .ref v0), (1, .int v1)]) (st' := [.int (1 : Int32), .ref v0]) rfl ?_
  refine xZ.k_aI (me := xm160) hP_160 rfl (fun x1 => ?_)
  refine xZ.adv (me := xm160) hP_160 11 (pc' := 17) (lv' := [(0, .ref v0), (1, .int v1)]) (st' := [.int (1 : Int32), .int ((x1 >>> ((((v1 / (1440 : Int32)) + (5 : Int32)) - ((v1 / (1440 : Int32)) + (5 : Int32)) / (7 : Int32) * (7 : Int32)) &&& 31)) &&& (1 : Int32))]) rfl ?_
  refine xZ.ic_ne (me := xm160) hP_160 rfl (fun h1 => ?_) (fun h1 => ?_)
  · skip
    refine xZ.adv (me := xm160) hP_160 5 (pc' := 27) (lv' := [(0, .ref v0), (1, .int v1)]) (st' := [.int (2 : Int32), .ref v0, .int (v1 - v1 / (1440 : Int32) * (1440 : Int32))]) rfl ?_
    refine xZ.k_aI (me := xm160) hP_160 rfl (fun x2 => ?_)
    refine xZ.ic_lt (me := xm160) hP_160 rfl (fun h2 => ?_) (fun h2 => ?_)
    · skip
      refine xZ.adv (me := xm160) hP_160 1 (pc' := 47) (lv' := [(0, .ref v0), (1, .int v1)]) (st' := [.int (0 : Int32)]) rfl ?_
      exact xZ.rete (me := xm160) hP_160 rfl rfl rfl
    · skip
      refine xZ.adv (me := xm160) hP_160 5 (pc' := 38) (lv' := [(0, .ref v0), (1, .int v1)]) (st' := [.int (3 : Int32), .ref v0, .int (v1 - v1 / (1440 : Int32) * (1440 : Int32))]) rfl ?_
      refine xZ.k_aI (me := xm160) hP_160 rfl (fun x3 => ?_)
      refine xZ.ic_ge (me := xm160) hP_160 rfl (fun h3 => ?_) (fun h3 => ?_)
      · skip
        refine xZ.adv (me := xm160) hP_160 1 (pc' := 47) (lv' := [(0, .ref v0), (1, .int v1)]) (st' := [.int (0 : Int32)]) rfl ?_
        exact xZ.rete (me := xm160) hP_160 rfl rfl rfl
      · skip
        refine xZ.adv (me := xm160) hP_160 2 (pc' := 47) (lv' := [(0, .ref v0), (1, .int v1)]) (st' := [.int (1 : Int32)]) rfl ?_
        exact xZ.rete (me := xm160) hP_160 rfl rfl rfl
  · skip
    refine xZ.adv (me := xm160) hP_160 1 (pc' := 47) (lv' := [(0, .ref v0), (1, .int v1)]) (st' := [.int (0 : Int32)]) rfl ?_
    exact xZ.rete (me := xm160) hP_160 rfl rfl rfl
def f_Dates_clear (O : Nat → Option va_E) (f : Nat) (v0 : Nat) (M : xM) : Option (Unit × xM) :=
  (pI M v0 2 0 (0 : Int32)).bind fun M1 =>
  some ((), M1)
set_option maxRecDepth 20000 in
theorem k_f_Dates_clear (O : Nat → Option va_E) (f d : Nat) (v0 : Nat) (M : xM) : xZ oU O (d + 0) 163 0 [(0, .ref v0)] [] M (f_Dates_clear O f v0 M) := by
  unfold f_Dates_clear
  refine xZ.adv (me := xm163) hP_163 2 (pc' := 2) (lv' := [(0, .ref v0)]) (st' := [.int (0 : Int32), .ref v0]) rfl ?_
  refine xZ.k_pI (me := xm163) hP_163 rfl (fun M1 => ?_)
  exact xZ.retu (me := xm163) hP_163 rfl rfl
def f_Dates_putLength (O : Nat → Option va_E) (f : Nat) (v0 : Nat) (v1 : Int32) (v2 : Int32) (M : xM) : Option (Unit × xM) :=
  (gR O M v0 2 2).bind fun x1 =>
  (wI M x1 (v1 &&& (15 : Int32)) v2).bind fun M1 =>
  some ((), M1)
set_option maxRecDepth 20000 in
theorem k_f_Dates_putLength (O : Nat → Option va_E) (f d : Nat) (v0 : Nat) (v1 : Int32) (v2 : Int32) (M : xM) : xZ oU O (d + 0) 165 0 [(0, .ref v0), (1, .int v1), (2, .int v2)] [] M (f_Dates_putLength O f v0 v1 v2 M) := by
  unfold f_Dates_putLength
  refine xZ.adv (me := xm165) hP_165 1 (pc' := 1) (lv' := [(0, .ref v0), (1, .int v1), (2, .int v2)]) (st' := [.ref v0]) rfl ?_
  refine xZ.k_gR (me := xm165) hP_165 rfl (fun x1 => ?_)
  refine xZ.adv (me := xm165) hP_165 4 (pc' := 9) (lv' := [(0, .ref v0), (1, .int v1), (2, .int v2)]) (st' := [.int v2, .int (v1 &&& (15 : Int32)), .ref x1]) rfl ?_
  refine xZ.k_wI (me := xm165) hP_165 rfl (fun M1 => ?_)
  exact xZ.retu (me := xm165) hP_165 rfl rfl
def f_Dates_rowAt_22 (O : Nat → Option va_E) (f : Nat)  (M : xM) : Option (Int64 × xM) :=
  some ((0 : Int64), M)
set_option maxRecDepth 20000 in
theorem k_f_Dates_rowAt_22 (O : Nat → Option va_E) (f d : Nat)  (M : xM) : xZ oL O (d + 0) 167 22 [] [] M (f_Dates_rowAt_22 O f  M) := by
  unfold f_Dates_rowAt_22
  refine xZ.adv (me := xm167) hP_167 1 (pc' := 23) (lv' := []) (st' := [.long (0 : Int64)]) rfl ?_
  exact xZ.retl (me := xm167) hP_167 rfl rfl
def f_Dates_rowAt (O : Nat → Option va_E) (f : Nat) (v0 : Nat) (v1 : Int32) (M : xM) : Option (Int64 × xM) :=
  if v1 < 0 then (
    f_Dates_rowAt_22 O f M
  ) else
  (gR O M v0 2 1).bind fun x1 =>
  (aN O M x1).bind fun x2 =>
  if x2 ≤ v1 then (
    f_Dates_rowAt_22 O f M
  ) else
  (gR O M v0 2 1).bind fun x3 =>
  (aL O M x3 v1).bind fun x4 =>
  some (x4, M)
set_option maxRecDepth 20000 in
theorem k_f_Dates_rowAt (O : Nat → Option va_E) (f d : Nat) (v0 : Nat) (v1 : Int32) (M : xM) : xZ oL O (d + 0) 167 0 [(0, .ref v0), (1, .int v1)] [] M (f_Dates_rowAt O f v0 v1 M) := by
  unfold f_Dates_rowAt
  refine xZ.adv (me := xm167) hP_167 1 (pc' := 1) (lv' := [(0, .ref v0), (1, .int v1)]) (st' := [.int v1]) rfl ?_
  refine xZ.if_lt (me := xm167) hP_167 rfl (fun h1 => ?_) (fun h1 => ?_)
  · skip
    exact xZ.sub xsn (show ([0, 1] : List Nat).Nodup from by decide) (k_f_Dates_rowAt_22 O f d M)
  · skip
    refine xZ.adv (me := xm167) hP_167 2 (pc' := 6) (lv' := [(0, .ref v0), (1, .int v1)]) (st' := [.ref v0, .int v1]) rfl ?_
    refine xZ.k_gR (me := xm167) hP_167 rfl (fun x1 => ?_)
    refine xZ.k_aN (me := xm167) hP_167 rfl (fun x2 => ?_)
    refine xZ.ic_ge (me := xm167) hP_167 rfl (fun h2 => ?_) (fun h2 => ?_)
    · skip
      exact xZ.sub xsn (show ([0, 1] : List Nat).Nodup from by decide) (k_f_Dates_rowAt_22 O f d M)
    · skip
      refine xZ.adv (me := xm167) hP_167 1 (pc' := 14) (lv' := [(0, .ref v0), (1, .int v1)]) (st' := [.ref v0]) rfl ?_
      refine xZ.k_gR (me := xm167) hP_167 rfl (fun x3 => ?_)
      refine xZ.adv (me := xm167) hP_167 1 (pc' := 18) (lv' := [(0, .ref v0), (1, .int v1)]) (st' := [.int v1, .ref x3]) rfl ?_
      refine xZ.k_aL (me := xm167) hP_167 rfl (fun x4 => ?_)
      refine xZ.adv (me := xm167) hP_167 1 (pc' := 23) (lv' := [(0, .ref v0), (1, .int v1)]) (st' := [.long x4]) rfl ?_
      exact xZ.retl (me := xm167) hP_167 rfl rfl
def f_Dates_add_79 (O : Nat → Option va_E) (f : Nat) (v0 : Nat) (v1 : Int64) (v3 : Int32) (M : xM) : Option (Unit × xM) :=
  (gR O M v0 2 1).bind fun x1 =>
  (gR O M v0 2 1).bind fun x2 =>
  (gI O M v0 2 0).bind fun x3 =>
  (cpX M x1 v3 x2 (v3 + (1 : Int32)) (x3 - v3)).bind fun M1 =>
  (gR O M1 v0 2 1).bind fun x4 =>
  (wL M1 x4 v3 v1).bind fun M2 =>
  (gI O M2 v0 2 0).bind fun x5 =>
  (pI M2 v0 2 0 (x5 + (1 : Int32))).bind fun M3 =>
  some ((), M3)
set_option maxRecDepth 20000 in
theorem k_f_Dates_add_79 (O : Nat → Option va_E) (f d : Nat) (v0 : Nat) (v1 : Int64) (v3 : Int32) (M : xM) : xZ oU O (d + 1) 166 79 [(0, .ref v0), (1, .long v1), (3, .int v3)] [] M (f_Dates_add_79 O f v0 v1 v3 M) := by
  unfold f_Dates_add_79
  refine xZ.adv (me := xm166) hP_166 1 (pc' := 80) (lv' := [(0, .ref v0), (1, .long v1), (3, .int v3)]) (st' := [.ref v0]) rfl ?_
  refine xZ.k_gR (me := xm166) hP_166 rfl (fun x1 => ?_)
  refine xZ.adv (me := xm166) hP_166 2 (pc' := 85) (lv' := [(0, .ref v0), (1, .long v1), (3, .int v3)]) (st' := [.ref v0, .int v3, .ref x1]) rfl ?_
  refine xZ.k_gR (me := xm166) hP_166 rfl (fun x2 => ?_)
  refine xZ.adv (me := xm166) hP_166 4 (pc' := 92) (lv' := [(0, .ref v0), (1, .long v1), (3, .int v3)]) (st' := [.ref v0, .int (v3 + (1 : Int32)), .ref x2, .int v3, .ref x1]) rfl ?_
  refine xZ.k_gI (me := xm166) hP_166 rfl (fun x3 => ?_)
  refine xZ.adv (me := xm166) hP_166 2 (pc' := 97) (lv' := [(0, .ref v0), (1, .long v1), (3, .int v3)]) (st' := [.int (x3 - v3), .int (v3 + (1 : Int32)), .ref x2, .int v3, .ref x1]) rfl ?_
  refine xZ.k_cpX (me := xm166) hP_166 rfl (Nat.le_of_ble_eq_true rfl) (fun M1 => ?_)
  refine xZ.adv (me := xm166) hP_166 1 (pc' := 101) (lv' := [(0, .ref v0), (1, .long v1), (3, .int v3)]) (st' := [.ref v0]) rfl ?_
  refine xZ.k_gR (me := xm166) hP_166 rfl (fun x4 => ?_)
  refine xZ.adv (me := xm166) hP_166 2 (pc' := 106) (lv' := [(0, .ref v0), (1, .long v1), (3, .int v3)]) (st' := [.long v1, .int v3, .ref x4]) rfl ?_
  refine xZ.k_wL (me := xm166) hP_166 rfl (fun M2 => ?_)
  refine xZ.adv (me := xm166) hP_166 2 (pc' := 109) (lv' := [(0, .ref v0), (1, .long v1), (3, .int v3)]) (st' := [.ref v0, .ref v0]) rfl ?_
  refine xZ.k_gI (me := xm166) hP_166 rfl (fun x5 => ?_)
  refine xZ.adv (me := xm166) hP_166 2 (pc' := 114) (lv' := [(0, .ref v0), (1, .long v1), (3, .int v3)]) (st' := [.int (x5 + (1 : Int32)), .ref v0]) rfl ?_
  refine xZ.k_pI (me := xm166) hP_166 rfl (fun M3 => ?_)
  exact xZ.retu (me := xm166) hP_166 rfl rfl
def f_Dates_add_29 (O : Nat → Option va_E) (f : Nat) : Nat → Nat → Int64 → Int32 → Int32 → Int32 → xM → Option (Unit × xM)
  | 0, _, _, _, _, _, _ => none
  | n + 1, v0, v1, v3, v4, v5, M =>
    if (32 : Int32) ≤ v5 then (
      f_Dates_add_79 O f v0 v1 v3 M
    ) else
    if v4 ≤ v3 then (
      f_Dates_add_79 O f v0 v1 v3 M
    ) else
    (isO O M v0 2).bind fun _ =>
    xcl (f_Dates_rowAt O f v0 ((v3 + v4) / (2 : Int32)) M) fun x1 M1 =>
    if 0 < (lg_cmp x1 v1) then (
      f_Dates_add_29 O f n v0 v1 v3 ((v3 + v4) / (2 : Int32)) (v5 + (1 : Int32)) M1
    ) else
    xlet (((v3 + v4) / (2 : Int32)) + (1 : Int32)) fun x2 =>
    f_Dates_add_29 O f n v0 v1 x2 v4 (v5 + (1 : Int32)) M1
set_option maxRecDepth 20000 in
theorem k_f_Dates_add_29 (O : Nat → Option va_E) (f d : Nat) : ∀ (n : Nat) (v0 : Nat) (v1 : Int64) (v3 : Int32) (v4 : Int32) (v5 : Int32) (M : xM), xZ oU O (d + 1) 166 29 [(0, .ref v0), (1, .long v1), (3, .int v3), (4, .int v4), (5, .int v5)] [] M (f_Dates_add_29 O f n v0 v1 v3 v4 v5 M) := by
  intro n
  induction n with
  | zero =>
    intro v0 v1 v3 v4 v5 M
    exact xZ.no
  | succ n ih =>
    intro v0 v1 v3 v4 v5 M
    unfold f_Dates_add_29
    refine xZ.adv (me := xm166) hP_166 2 (pc' := 33) (lv' := [(0, .ref v0), (1, .long v1), (3, .int v3), (4, .int v4), (5, .int v5)]) (st' := [.int (32 : Int32), .int v5]) rfl ?_
    refine xZ.ic_ge (me := xm166) hP_166 rfl (fun h1 => ?_) (fun h1 => ?_)
    · skip
      exact xZ.sub (xsc (.head _) (xsc (.tail _ (.head _)) (xsc (.tail _ (.tail _ (.head _))) xsn))) (show ([0, 1, 3, 4, 5] : List Nat).Nodup from by decide) (k_f_Dates_add_79 O f d v0 v1 v3 M)
    · skip
      refine xZ.adv (me := xm166) hP_166 2 (pc' := 39) (lv' := [(0, .ref v0), (1, .long v1), (3, .int v3), (4, .int v4), (5, .int v5)]) (st' := [.int v4, .int v3]) rfl ?_
      refine xZ.ic_ge (me := xm166) hP_166 rfl (fun h2 => ?_) (fun h2 => ?_)
      · skip
        exact xZ.sub (xsc (.head _) (xsc (.tail _ (.head _)) (xsc (.tail _ (.tail _ (.head _))) xsn))) (show ([0, 1, 3, 4, 5] : List Nat).Nodup from by decide) (k_f_Dates_add_79 O f d v0 v1 v3 M)
      · skip
        refine xZ.adv (me := xm166) hP_166 8 (pc' := 53) (lv' := [(6, .int ((v3 + v4) / (2 : Int32))), (0, .ref v0), (1, .long v1), (3, .int v3), (4, .int v4), (5, .int v5)]) (st' := [.int ((v3 + v4) / (2 : Int32)), .ref v0]) rfl ?_
        refine xZ.callv (κ := oL) (av := [.int ((v3 + v4) / (2 : Int32))]) (rest := []) (st' := fun x1 => [.long x1]) (k0 := v0) (me := xm166) hP_166 rfl (Or.inl rfl) ⟨rfl, by decide⟩ rfl rfl (Nat.le_of_ble_eq_true rfl) (by decide) hP_167 (Nat.le_of_ble_eq_true rfl) (fun _ => rfl) (k_f_Dates_rowAt O f (d + 0) v0 ((v3 + v4) / (2 : Int32)) M) (fun x1 M1 => ?_)
        refine xZ.adv (me := xm166) hP_166 2 (pc' := 58) (lv' := [(6, .int ((v3 + v4) / (2 : Int32))), (0, .ref v0), (1, .long v1), (3, .int v3), (4, .int v4), (5, .int v5)]) (st' := [.int (lg_cmp x1 v1)]) rfl ?_
        refine xZ.if_gt (me := xm166) hP_166 rfl (fun h3 => ?_) (fun h3 => ?_)
        · skip
          refine xZ.adv (me := xm166) hP_166 4 (pc' := 29) (lv' := [(5, .int (v5 + (1 : Int32))), (4, .int ((v3 + v4) / (2 : Int32))), (6, .int ((v3 + v4) / (2 : Int32))), (0, .ref v0), (1, .long v1), (3, .int v3)]) (st' := []) rfl ?_
          exact xZ.sub (xsc (.tail _ (.tail _ (.tail _ (.head _)))) (xsc (.tail _ (.tail _ (.tail _ (.tail _ (.head _))))) (xsc (.tail _ (.tail _ (.tail _ (.tail _ (.tail _ (.head _)))))) (xsc (.tail _ (.head _)) (xsc (.head _) xsn))))) (show ([5, 4, 6, 0, 1, 3] : List Nat).Nodup from by decide) (ih v0 v1 v3 ((v3 + v4) / (2 : Int32)) (v5 + (1 : Int32)) M1)
        · skip
          refine xZ.adv (me := xm166) hP_166 4 (pc' := 66) (lv' := [(3, .int (((v3 + v4) / (2 : Int32)) + (1 : Int32))), (6, .int ((v3 + v4) / (2 : Int32))), (0, .ref v0), (1, .long v1), (4, .int v4), (5, .int v5)]) (st' := []) rfl ?_
          refine xZ.letI (v := (((v3 + v4) / (2 : Int32)) + (1 : Int32))) (lvf := fun x2 => [(3, .int x2), (6, .int ((v3 + v4) / (2 : Int32))), (0, .ref v0), (1, .long v1), (4, .int v4), (5, .int v5)]) (stf := fun x2 => []) ?_
          intro x2
          refine xZ.adv (me := xm166) hP_166 3 (pc' := 29) (lv' := [(5, .int (v5 + (1 : Int32))), (3, .int x2), (6, .int ((v3 + v4) / (2 : Int32))), (0, .ref v0), (1, .long v1), (4, .int v4)]) (st' := []) rfl ?_
          exact xZ.sub (xsc (.tail _ (.tail _ (.tail _ (.head _)))) (xsc (.tail _ (.tail _ (.tail _ (.tail _ (.head _))))) (xsc (.tail _ (.head _)) (xsc (.tail _ (.tail _ (.tail _ (.tail _ (.tail _ (.head _)))))) (xsc (.head _) xsn))))) (show ([5, 3, 6, 0, 1, 4] : List Nat).Nodup from by decide) (ih v0 v1 x2 v4 (v5 + (1 : Int32)) M1)
def f_Dates_add (O : Nat → Option va_E) (f : Nat) (v0 : Nat) (v1 : Int64) (M : xM) : Option (Unit × xM) :=
  (gI O M v0 2 0).bind fun x1 =>
  if x1 < 0 then (
    some ((), M)
  ) else
  (gI O M v0 2 0).bind fun x2 =>
  if x2 < (320 : Int32) then (
    (gI O M v0 2 0).bind fun x3 =>
    f_Dates_add_29 O f f v0 v1 (0 : Int32) x3 (0 : Int32) M
  ) else
  some ((), M)
set_option maxRecDepth 20000 in
theorem k_f_Dates_add (O : Nat → Option va_E) (f d : Nat) (v0 : Nat) (v1 : Int64) (M : xM) : xZ oU O (d + 1) 166 0 [(0, .ref v0), (1, .long v1)] [] M (f_Dates_add O f v0 v1 M) := by
  unfold f_Dates_add
  refine xZ.adv (me := xm166) hP_166 1 (pc' := 1) (lv' := [(0, .ref v0), (1, .long v1)]) (st' := [.ref v0]) rfl ?_
  refine xZ.k_gI (me := xm166) hP_166 rfl (fun x1 => ?_)
  refine xZ.if_lt (me := xm166) hP_166 rfl (fun h1 => ?_) (fun h1 => ?_)
  · skip
    exact xZ.retu (me := xm166) hP_166 rfl rfl
  · skip
    refine xZ.adv (me := xm166) hP_166 1 (pc' := 8) (lv' := [(0, .ref v0), (1, .long v1)]) (st' := [.ref v0]) rfl ?_
    refine xZ.k_gI (me := xm166) hP_166 rfl (fun x2 => ?_)
    refine xZ.adv (me := xm166) hP_166 1 (pc' := 14) (lv' := [(0, .ref v0), (1, .long v1)]) (st' := [.int (320 : Int32), .int x2]) rfl ?_
    refine xZ.ic_lt (me := xm166) hP_166 rfl (fun h2 => ?_) (fun h2 => ?_)
    · skip
      refine xZ.adv (me := xm166) hP_166 3 (pc' := 21) (lv' := [(3, .int (0 : Int32)), (0, .ref v0), (1, .long v1)]) (st' := [.ref v0]) rfl ?_
      refine xZ.k_gI (me := xm166) hP_166 rfl (fun x3 => ?_)
      refine xZ.adv (me := xm166) hP_166 3 (pc' := 29) (lv' := [(5, .int (0 : Int32)), (4, .int x3), (3, .int (0 : Int32)), (0, .ref v0), (1, .long v1)]) (st' := []) rfl ?_
      exact xZ.sub (xsc (.tail _ (.tail _ (.tail _ (.head _)))) (xsc (.tail _ (.tail _ (.tail _ (.tail _ (.head _))))) (xsc (.tail _ (.tail _ (.head _))) (xsc (.tail _ (.head _)) (xsc (.head _) xsn))))) (show ([5, 4, 3, 0, 1] : List Nat).Nodup from by decide) (k_f_Dates_add_29 O f d f v0 v1 (0 : Int32) x3 (0 : Int32) M)
    · skip
      exact xZ.retu (me := xm166) hP_166 rfl rfl
