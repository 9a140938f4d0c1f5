/-! ===== texts ===== -/
def f_Series_addRows_105 (O : Nat → Option va_E) (f : Nat) (K31 : Nat → Nat → Int32 → Int32 → Nat → Int32 → Int32 → Int32 → Int32 → xM → Option (Unit × xM)) (v0 : Nat) (v1 : Nat) (v2 : Int32) (v3 : Int32) (v4 : Nat) (v5 : Int32) (v6 : Int32) (v7 : Int32) (v8 : Int32) (M : xM) : Option (Unit × xM) :=
  (gR O M v0 10 6).bind fun x1 =>
  (isO O M x1 9).bind fun _ =>
  xcl (f_Rule_next O f x1 (v7 + (1 : Int32)) M) fun x2 M1 =>
  K31 v0 v1 v2 v3 v4 v5 v6 x2 (v8 + (1 : Int32)) M1
set_option maxRecDepth 20000 in
theorem k_f_Series_addRows_105 (O : Nat → Option va_E) (f d : Nat) (K31 : Nat → Nat → Int32 → Int32 → Nat → Int32 → Int32 → Int32 → Int32 → xM → Option (Unit × xM)) (hK31 : ∀ (v0 : Nat) (v1 : Nat) (v2 : Int32) (v3 : Int32) (v4 : Nat) (v5 : Int32) (v6 : Int32) (v7 : Int32) (v8 : Int32) M, xZ oU O (d + 5) 164 31 [(0, .ref v0), (1, .ref v1), (2, .int v2), (3, .int v3), (4, .ref v4), (5, .int v5), (6, .int v6), (7, .int v7), (8, .int v8)] [] M (K31 v0 v1 v2 v3 v4 v5 v6 v7 v8 M)) (v0 : Nat) (v1 : Nat) (v2 : Int32) (v3 : Int32) (v4 : Nat) (v5 : Int32) (v6 : Int32) (v7 : Int32) (v8 : Int32) (M : xM) : xZ oU O (d + 5) 164 105 [(0, .ref v0), (1, .ref v1), (2, .int v2), (3, .int v3), (4, .ref v4), (5, .int v5), (6, .int v6), (7, .int v7), (8, .int v8)] [] M (f_Series_addRows_105 O f K31 v0 v1 v2 v3 v4 v5 v6 v7 v8 M) := by
  unfold f_Series_addRows_105
  refine xZ.adv (me := xm164) hP_164 1 (pc' := 106) (lv' := [(0, .ref v0), (1, .ref v1), (2, .int v2), (3, .int v3), (4, .ref v4), (5, .int v5), (6, .int v6), (7, .int v7), (8, .int v8)]) (st' := [.ref v0]) rfl ?_
  refine xZ.k_gR (me := xm164) hP_164 rfl (fun x1 => ?_)
  refine xZ.adv (me := xm164) hP_164 3 (pc' := 113) (lv' := [(0, .ref v0), (1, .ref v1), (2, .int v2), (3, .int v3), (4, .ref v4), (5, .int v5), (6, .int v6), (7, .int v7), (8, .int v8)]) (st' := [.int (v7 + (1 : Int32)), .ref x1]) rfl ?_
  refine xZ.callv (κ := oI) (av := [.int (v7 + (1 : Int32))]) (rest := []) (st' := fun x2 => [.int x2]) (k0 := x1) (me := xm164) hP_164 rfl (Or.inl rfl) ⟨rfl, by decide⟩ rfl rfl (Nat.le_of_ble_eq_true rfl) (by decide) hP_45 (Nat.le_of_ble_eq_true rfl) (fun _ => rfl) (k_f_Rule_next O f (d + 0) x1 (v7 + (1 : Int32)) M) (fun x2 M1 => ?_)
  refine xZ.adv (me := xm164) hP_164 3 (pc' := 31) (lv' := [(8, .int (v8 + (1 : Int32))), (7, .int x2), (0, .ref v0), (1, .ref v1), (2, .int v2), (3, .int v3), (4, .ref v4), (5, .int v5), (6, .int v6)]) (st' := []) rfl ?_
  exact xZ.sub (xsc (.tail _ (.tail _ (.head _))) (xsc (.tail _ (.tail _ (.tail _ (.head _)))) (xsc (.tail _ (.tail _ (.tail _ (.tail _ (.head _))))) (xsc (.tail _ (.tail _ (.tail _ (.tail _ (.tail _ (.head _)))))) (xsc (.tail _ (.tail _ (.tail _ (.tail _ (.tail _ (.tail _ (.head _))))))) (xsc (.tail _ (.tail _ (.tail _ (.tail _ (.tail _ (.tail _ (.tail _ (.head _)))))))) (xsc (.tail _ (.tail _ (.tail _ (.tail _ (.tail _ (.tail _ (.tail _ (.tail _ (.head _))))))))) (xsc (.tail _ (.head _)) (xsc (.head _) xsn))))))))) (show ([8, 7, 0, 1, 2, 3, 4, 5, 6] : List Nat).Nodup from by decide) (hK31 v0 v1 v2 v3 v4 v5 v6 x2 (v8 + (1 : Int32)) M1)
def f_Series_addRows_127 (O : Nat → Option va_E) (f : Nat) : Nat → Nat → Nat → Int32 → Int32 → Nat → Int32 → Int32 → Int32 → xM → Option (Unit × xM)
  | 0, _, _, _, _, _, _, _, _, _ => none
  | n + 1, v0, v1, v2, v3, v4, v5, v6, v8, M =>
    (gI O M v0 10 7).bind fun x1 =>
    if x1 ≤ v8 then (
      some ((), M)
    ) else
    (isO O M v0 10).bind fun _ =>
    xcl (f_Series_exceptionTo O f v0 v8 M) fun x2 M1 =>
    if x2 = (-1 : Int32) then (
      f_Series_addRows_127 O f n v0 v1 v2 v3 v4 v5 v6 (v8 + (1 : Int32)) M1
    ) else
    (isO O M1 v0 10).bind fun _ =>
    xcl (f_Series_exceptionTo O f v0 v8 M1) fun x3 M2 =>
    (isO O M2 v4 11).bind fun _ =>
    xcl (f_Zone_commonOf O f v4 x3 M2) fun x4 M3 =>
    if (x4 - v3) < v5 then (
      f_Series_addRows_127 O f n v0 v1 v2 v3 v4 v5 v6 (v8 + (1 : Int32)) M3
    ) else
    if v6 ≤ (x4 - v3) then (
      f_Series_addRows_127 O f n v0 v1 v2 v3 v4 v5 v6 (v8 + (1 : Int32)) M3
    ) else
    (isO O M3 v0 10).bind fun _ =>
    xcl (f_Series_exceptionDay O f v0 v8 M3) fun x5 M4 =>
    xcl (f_Dates_row O f (x4 - v3) v2 x5 (0 : Int32) M4) fun x6 M5 =>
    (isO O M5 v1 2).bind fun _ =>
    xcl (f_Dates_add O f v1 x6 M5) fun _ M6 =>
    f_Series_addRows_127 O f n v0 v1 v2 v3 v4 v5 v6 (v8 + (1 : Int32)) M6
set_option maxRecDepth 20000 in
theorem k_f_Series_addRows_127 (O : Nat → Option va_E) (f d : Nat) : ∀ (n : Nat) (v0 : Nat) (v1 : Nat) (v2 : Int32) (v3 : Int32) (v4 : Nat) (v5 : Int32) (v6 : Int32) (v8 : Int32) (M : xM), xZ oU O (d + 5) 164 127 [(0, .ref v0), (1, .ref v1), (2, .int v2), (3, .int v3), (4, .ref v4), (5, .int v5), (6, .int v6), (8, .int v8)] [] M (f_Series_addRows_127 O f n v0 v1 v2 v3 v4 v5 v6 v8 M) := by
  intro n
  induction n with
  | zero =>
    intro v0 v1 v2 v3 v4 v5 v6 v8 M
    exact xZ.no
  | succ n ih =>
    intro v0 v1 v2 v3 v4 v5 v6 v8 M
    unfold f_Series_addRows_127
    refine xZ.adv (me := xm164) hP_164 2 (pc' := 130) (lv' := [(0, .ref v0), (1, .ref v1), (2, .int v2), (3, .int v3), (4, .ref v4), (5, .int v5), (6, .int v6), (8, .int v8)]) (st' := [.ref v0, .int v8]) rfl ?_
    refine xZ.k_gI (me := xm164) hP_164 rfl (fun x1 => ?_)
    refine xZ.ic_ge (me := xm164) hP_164 rfl (fun h1 => ?_) (fun h1 => ?_)
    · skip
      exact xZ.retu (me := xm164) hP_164 rfl rfl
    · skip
      refine xZ.adv (me := xm164) hP_164 2 (pc' := 139) (lv' := [(0, .ref v0), (1, .ref v1), (2, .int v2), (3, .int v3), (4, .ref v4), (5, .int v5), (6, .int v6), (8, .int v8)]) (st' := [.int v8, .ref v0]) rfl ?_
      refine xZ.callv (κ := oI) (av := [.int v8]) (rest := []) (st' := fun x2 => [.int x2]) (k0 := v0) (me := xm164) hP_164 rfl (Or.inl rfl) ⟨rfl, by decide⟩ rfl rfl (Nat.le_of_ble_eq_true rfl) (by decide) hP_108 (Nat.le_of_ble_eq_true rfl) (fun _ => rfl) (k_f_Series_exceptionTo O f (d + 4) v0 v8 M) (fun x2 M1 => ?_)
      refine xZ.adv (me := xm164) hP_164 1 (pc' := 143) (lv' := [(0, .ref v0), (1, .ref v1), (2, .int v2), (3, .int v3), (4, .ref v4), (5, .int v5), (6, .int v6), (8, .int v8)]) (st' := [.int (-1 : Int32), .int x2]) rfl ?_
      refine xZ.ic_ne (me := xm164) hP_164 rfl (fun h2 => ?_) (fun h2 => ?_)
      · skip
        refine xZ.adv (me := xm164) hP_164 3 (pc' := 127) (lv' := [(8, .int (v8 + (1 : Int32))), (0, .ref v0), (1, .ref v1), (2, .int v2), (3, .int v3), (4, .ref v4), (5, .int v5), (6, .int v6)]) (st' := []) rfl ?_
        exact xZ.sub (xsc (.tail _ (.head _)) (xsc (.tail _ (.tail _ (.head _))) (xsc (.tail _ (.tail _ (.tail _ (.head _)))) (xsc (.tail _ (.tail _ (.tail _ (.tail _ (.head _))))) (xsc (.tail _ (.tail _ (.tail _ (.tail _ (.tail _ (.head _)))))) (xsc (.tail _ (.tail _ (.tail _ (.tail _ (.tail _ (.tail _ (.head _))))))) (xsc (.tail _ (.tail _ (.tail _ (.tail _ (.tail _ (.tail _ (.tail _ (.head _)))))))) (xsc (.head _) xsn)))))))) (show ([8, 0, 1, 2, 3, 4, 5, 6] : List Nat).Nodup from by decide) (ih v0 v1 v2 v3 v4 v5 v6 (v8 + (1 : Int32)) M1)
      · skip
        refine xZ.adv (me := xm164) hP_164 3 (pc' := 154) (lv' := [(0, .ref v0), (1, .ref v1), (2, .int v2), (3, .int v3), (4, .ref v4), (5, .int v5), (6, .int v6), (8, .int v8)]) (st' := [.int v8, .ref v0, .ref v4]) rfl ?_
        refine xZ.callv (κ := oI) (av := [.int v8]) (rest := [.ref v4]) (st' := fun x3 => [.int x3, .ref v4]) (k0 := v0) (me := xm164) hP_164 rfl (Or.inl rfl) ⟨rfl, by decide⟩ rfl rfl (Nat.le_of_ble_eq_true rfl) (by decide) hP_108 (Nat.le_of_ble_eq_true rfl) (fun _ => rfl) (k_f_Series_exceptionTo O f (d + 4) v0 v8 M1) (fun x3 M2 => ?_)
        refine xZ.callv (κ := oI) (av := [.int x3]) (rest := []) (st' := fun x4 => [.int x4]) (k0 := v4) (me := xm164) hP_164 rfl (Or.inl rfl) ⟨rfl, by decide⟩ rfl rfl (Nat.le_of_ble_eq_true rfl) (by decide) hP_105 (Nat.le_of_ble_eq_true rfl) (fun _ => rfl) (k_f_Zone_commonOf O f (d + 1) v4 x3 M2) (fun x4 M3 => ?_)
        refine xZ.adv (me := xm164) hP_164 5 (pc' := 168) (lv' := [(9, .int (x4 - v3)), (0, .ref v0), (1, .ref v1), (2, .int v2), (3, .int v3), (4, .ref v4), (5, .int v5), (6, .int v6), (8, .int v8)]) (st' := [.int v5, .int (x4 - v3)]) rfl ?_
        refine xZ.ic_lt (me := xm164) hP_164 rfl (fun h3 => ?_) (fun h3 => ?_)
        · skip
          refine xZ.adv (me := xm164) hP_164 2 (pc' := 127) (lv' := [(8, .int (v8 + (1 : Int32))), (9, .int (x4 - v3)), (0, .ref v0), (1, .ref v1), (2, .int v2), (3, .int v3), (4, .ref v4), (5, .int v5), (6, .int v6)]) (st' := []) rfl ?_
          exact xZ.sub (xsc (.tail _ (.tail _ (.head _))) (xsc (.tail _ (.tail _ (.tail _ (.head _)))) (xsc (.tail _ (.tail _ (.tail _ (.tail _ (.head _))))) (xsc (.tail _ (.tail _ (.tail _ (.tail _ (.tail _ (.head _)))))) (xsc (.tail _ (.tail _ (.tail _ (.tail _ (.tail _ (.tail _ (.head _))))))) (xsc (.tail _ (.tail _ (.tail _ (.tail _ (.tail _ (.tail _ (.tail _ (.head _)))))))) (xsc (.tail _ (.tail _ (.tail _ (.tail _ (.tail _ (.tail _ (.tail _ (.tail _ (.head _))))))))) (xsc (.head _) xsn)))))))) (show ([8, 9, 0, 1, 2, 3, 4, 5, 6] : List Nat).Nodup from by decide) (ih v0 v1 v2 v3 v4 v5 v6 (v8 + (1 : Int32)) M3)
        · skip
          refine xZ.adv (me := xm164) hP_164 2 (pc' := 175) (lv' := [(9, .int (x4 - v3)), (0, .ref v0), (1, .ref v1), (2, .int v2), (3, .int v3), (4, .ref v4), (5, .int v5), (6, .int v6), (8, .int v8)]) (st' := [.int v6, .int (x4 - v3)]) rfl ?_
          refine xZ.ic_ge (me := xm164) hP_164 rfl (fun h4 => ?_) (fun h4 => ?_)
          · skip
            refine xZ.adv (me := xm164) hP_164 2 (pc' := 127) (lv' := [(8, .int (v8 + (1 : Int32))), (9, .int (x4 - v3)), (0, .ref v0), (1, .ref v1), (2, .int v2), (3, .int v3), (4, .ref v4), (5, .int v5), (6, .int v6)]) (st' := []) rfl ?_
            exact xZ.sub (xsc (.tail _ (.tail _ (.head _))) (xsc (.tail _ (.tail _ (.tail _ (.head _)))) (xsc (.tail _ (.tail _ (.tail _ (.tail _ (.head _))))) (xsc (.tail _ (.tail _ (.tail _ (.tail _ (.tail _ (.head _)))))) (xsc (.tail _ (.tail _ (.tail _ (.tail _ (.tail _ (.tail _ (.head _))))))) (xsc (.tail _ (.tail _ (.tail _ (.tail _ (.tail _ (.tail _ (.tail _ (.head _)))))))) (xsc (.tail _ (.tail _ (.tail _ (.tail _ (.tail _ (.tail _ (.tail _ (.tail _ (.head _))))))))) (xsc (.head _) xsn)))))))) (show ([8, 9, 0, 1, 2, 3, 4, 5, 6] : List Nat).Nodup from by decide) (ih v0 v1 v2 v3 v4 v5 v6 (v8 + (1 : Int32)) M3)
          · skip
            refine xZ.adv (me := xm164) hP_164 5 (pc' := 185) (lv' := [(9, .int (x4 - v3)), (0, .ref v0), (1, .ref v1), (2, .int v2), (3, .int v3), (4, .ref v4), (5, .int v5), (6, .int v6), (8, .int v8)]) (st' := [.int v8, .ref v0, .int v2, .int (x4 - v3), .ref v1]) rfl ?_
            refine xZ.callv (κ := oI) (av := [.int v8]) (rest := [.int v2, .int (x4 - v3), .ref v1]) (st' := fun x5 => [.int x5, .int v2, .int (x4 - v3), .ref v1]) (k0 := v0) (me := xm164) hP_164 rfl (Or.inl rfl) ⟨rfl, by decide⟩ rfl rfl (Nat.le_of_ble_eq_true rfl) (by decide) hP_119 (Nat.le_of_ble_eq_true rfl) (fun _ => rfl) (k_f_Series_exceptionDay O f (d + 4) v0 v8 M3) (fun x5 M4 => ?_)
            refine xZ.adv (me := xm164) hP_164 1 (pc' := 189) (lv' := [(9, .int (x4 - v3)), (0, .ref v0), (1, .ref v1), (2, .int v2), (3, .int v3), (4, .ref v4), (5, .int v5), (6, .int v6), (8, .int v8)]) (st' := [.int (0 : Int32), .int x5, .int v2, .int (x4 - v3), .ref v1]) rfl ?_
            refine xZ.calls (κ := oL) (av := [.int (x4 - v3), .int v2, .int x5, .int (0 : Int32)]) (rest := [.ref v1]) (st' := fun x6 => [.long x6, .ref v1]) (me := xm164) hP_164 rfl rfl rfl (Nat.le_of_ble_eq_true rfl) (by decide) hP_122 (Nat.le_of_ble_eq_true rfl) (fun _ => rfl) (k_f_Dates_row O f (d + 4) (x4 - v3) v2 x5 (0 : Int32) M4) (fun x6 M5 => ?_)
            refine xZ.callv (κ := oU) (av := [.long x6]) (rest := []) (st' := fun _ => []) (k0 := v1) (me := xm164) hP_164 rfl (Or.inl rfl) ⟨rfl, by decide⟩ rfl rfl (Nat.le_of_ble_eq_true rfl) (by decide) hP_166 (Nat.le_of_ble_eq_true rfl) (fun _ => rfl) (k_f_Dates_add O f (d + 3) v1 x6 M5) (fun _ M6 => ?_)
            refine xZ.adv (me := xm164) hP_164 2 (pc' := 127) (lv' := [(8, .int (v8 + (1 : Int32))), (9, .int (x4 - v3)), (0, .ref v0), (1, .ref v1), (2, .int v2), (3, .int v3), (4, .ref v4), (5, .int v5), (6, .int v6)]) (st' := []) rfl ?_
            exact xZ.sub (xsc (.tail _ (.tail _ (.head _))) (xsc (.tail _ (.tail _ (.tail _ (.head _)))) (xsc (.tail _ (.tail _ (.tail _ (.tail _ (.head _))))) (xsc (.tail _ (.tail _ (.tail _ (.tail _ (.tail _ (.head _)))))) (xsc (.tail _ (.tail _ (.tail _ (.tail _ (.tail _ (.tail _ (.head _))))))) (xsc (.tail _ (.tail _ (.tail _ (.tail _ (.tail _ (.tail _ (.tail _ (.head _)))))))) (xsc (.tail _ (.tail _ (.tail _ (.tail _ (.tail _ (.tail _ (.tail _ (.tail _ (.head _))))))))) (xsc (.head _) xsn)))))))) (show ([8, 9, 0, 1, 2, 3, 4, 5, 6] : List Nat).Nodup from by decide) (ih v0 v1 v2 v3 v4 v5 v6 (v8 + (1 : Int32)) M6)
def f_Series_addRows_124 (O : Nat → Option va_E) (f : Nat) (v0 : Nat) (v1 : Nat) (v2 : Int32) (v3 : Int32) (v4 : Nat) (v5 : Int32) (v6 : Int32) (M : xM) : Option (Unit × xM) :=
  f_Series_addRows_127 O f f v0 v1 v2 v3 v4 v5 v6 (0 : Int32) M
set_option maxRecDepth 20000 in
theorem k_f_Series_addRows_124 (O : Nat → Option va_E) (f d : Nat) (v0 : Nat) (v1 : Nat) (v2 : Int32) (v3 : Int32) (v4 : Nat) (v5 : Int32) (v6 : Int32) (M : xM) : xZ oU O (d + 5) 164 124 [(0, .ref v0), (1, .ref v1), (2, .int v2), (3, .int v3), (4, .ref v4), (5, .int v5), (6, .int v6)] [] M (f_Series_addRows_124 O f v0 v1 v2 v3 v4 v5 v6 M) := by
  unfold f_Series_addRows_124
  refine xZ.adv (me := xm164) hP_164 2 (pc' := 127) (lv' := [(8, .int (0 : Int32)), (0, .ref v0), (1, .ref v1), (2, .int v2), (3, .int v3), (4, .ref v4), (5, .int v5), (6, .int v6)]) (st' := []) rfl ?_
  exact xZ.sub (xsc (.tail _ (.head _)) (xsc (.tail _ (.tail _ (.head _))) (xsc (.tail _ (.tail _ (.tail _ (.head _)))) (xsc (.tail _ (.tail _ (.tail _ (.tail _ (.head _))))) (xsc (.tail _ (.tail _ (.tail _ (.tail _ (.tail _ (.head _)))))) (xsc (.tail _ (.tail _ (.tail _ (.tail _ (.tail _ (.tail _ (.head _))))))) (xsc (.tail _ (.tail _ (.tail _ (.tail _ (.tail _ (.tail _ (.tail _ (.head _)))))))) (xsc (.head _) xsn)))))))) (show ([8, 0, 1, 2, 3, 4, 5, 6] : List Nat).Nodup from by decide) (k_f_Series_addRows_127 O f d f v0 v1 v2 v3 v4 v5 v6 (0 : Int32) M)
def f_Series_addRows_31 (O : Nat → Option va_E) (f : Nat) : Nat → Nat → Nat → Int32 → Int32 → Nat → Int32 → Int32 → Int32 → Int32 → xM → Option (Unit × xM)
  | 0, _, _, _, _, _, _, _, _, _, _ => none
  | n + 1, v0, v1, v2, v3, v4, v5, v6, v7, v8, M =>
    if (1000 : Int32) ≤ v8 then (
      f_Series_addRows_124 O f v0 v1 v2 v3 v4 v5 v6 M
    ) else
    if v7 = (-1 : Int32) then (
      f_Series_addRows_124 O f v0 v1 v2 v3 v4 v5 v6 M
    ) else
    (gI O M v0 10 2).bind fun x1 =>
    (isO O M v4 11).bind fun _ =>
    xcl (f_Zone_commonOf O f v4 ((v7 * (1440 : Int32)) + x1) M) fun x2 M1 =>
    if (x2 - v3) < v6 then (
      if (x2 - v3) < v5 then (
        f_Series_addRows_105 O f (f_Series_addRows_31 O f n) v0 v1 v2 v3 v4 v5 v6 v7 v8 M1
      ) else
      (isO O M1 v0 10).bind fun _ =>
      xcl (f_Series_exceptionOf O f v0 v7 M1) fun x3 M2 =>
      if x3 = (-1 : Int32) then (
        xcl (f_Dates_row O f (x2 - v3) v2 v7 (0 : Int32) M2) fun x4 M3 =>
        (isO O M3 v1 2).bind fun _ =>
        xcl (f_Dates_add O f v1 x4 M3) fun _ M4 =>
        f_Series_addRows_105 O f (f_Series_addRows_31 O f n) v0 v1 v2 v3 v4 v5 v6 v7 v8 M4
      ) else
      f_Series_addRows_105 O f (f_Series_addRows_31 O f n) v0 v1 v2 v3 v4 v5 v6 v7 v8 M2
    ) else
    f_Series_addRows_124 O f v0 v1 v2 v3 v4 v5 v6 M1
set_option maxRecDepth 20000 in
theorem k_f_Series_addRows_31 (O : Nat → Option va_E) (f d : Nat) : ∀ (n : Nat) (v0 : Nat) (v1 : Nat) (v2 : Int32) (v3 : Int32) (v4 : Nat) (v5 : Int32) (v6 : Int32) (v7 : Int32) (v8 : Int32) (M : xM), xZ oU O (d + 5) 164 31 [(0, .ref v0), (1, .ref v1), (2, .int v2), (3, .int v3), (4, .ref v4), (5, .int v5), (6, .int v6), (7, .int v7), (8, .int v8)] [] M (f_Series_addRows_31 O f n v0 v1 v2 v3 v4 v5 v6 v7 v8 M) := by
  intro n
  induction n with
  | zero =>
    intro v0 v1 v2 v3 v4 v5 v6 v7 v8 M
    exact xZ.no
  | succ n ih =>
    intro v0 v1 v2 v3 v4 v5 v6 v7 v8 M
    unfold f_Series_addRows_31
    refine xZ.adv (me := xm164) hP_164 2 (pc' := 36) (lv' := [(0, .ref v0), (1, .ref v1), (2, .int v2), (3, .int v3), (4, .ref v4), (5, .int v5), (6, .int v6), (7, .int v7), (8, .int v8)]) (st' := [.int (1000 : Int32), .int v8]) rfl ?_
    refine xZ.ic_ge (me := xm164) hP_164 rfl (fun h1 => ?_) (fun h1 => ?_)
    · skip
      exact xZ.sub (xsc (.head _) (xsc (.tail _ (.head _)) (xsc (.tail _ (.tail _ (.head _))) (xsc (.tail _ (.tail _ (.tail _ (.head _)))) (xsc (.tail _ (.tail _ (.tail _ (.tail _ (.head _))))) (xsc (.tail _ (.tail _ (.tail _ (.tail _ (.tail _ (.head _)))))) (xsc (.tail _ (.tail _ (.tail _ (.tail _ (.tail _ (.tail _ (.head _))))))) xsn))))))) (show ([0, 1, 2, 3, 4, 5, 6, 7, 8] : List Nat).Nodup from by decide) (k_f_Series_addRows_124 O f d v0 v1 v2 v3 v4 v5 v6 M)
    · skip
      refine xZ.adv (me := xm164) hP_164 2 (pc' := 42) (lv' := [(0, .ref v0), (1, .ref v1), (2, .int v2), (3, .int v3), (4, .ref v4), (5, .int v5), (6, .int v6), (7, .int v7), (8, .int v8)]) (st' := [.int (-1 : Int32), .int v7]) rfl ?_
      refine xZ.ic_eq (me := xm164) hP_164 rfl (fun h2 => ?_) (fun h2 => ?_)
      · skip
        exact xZ.sub (xsc (.head _) (xsc (.tail _ (.head _)) (xsc (.tail _ (.tail _ (.head _))) (xsc (.tail _ (.tail _ (.tail _ (.head _)))) (xsc (.tail _ (.tail _ (.tail _ (.tail _ (.head _))))) (xsc (.tail _ (.tail _ (.tail _ (.tail _ (.tail _ (.head _)))))) (xsc (.tail _ (.tail _ (.tail _ (.tail _ (.tail _ (.tail _ (.head _))))))) xsn))))))) (show ([0, 1, 2, 3, 4, 5, 6, 7, 8] : List Nat).Nodup from by decide) (k_f_Series_addRows_124 O f d v0 v1 v2 v3 v4 v5 v6 M)
      · skip
        refine xZ.adv (me := xm164) hP_164 5 (pc' := 54) (lv' := [(0, .ref v0), (1, .ref v1), (2, .int v2), (3, .int v3), (4, .ref v4), (5, .int v5), (6, .int v6), (7, .int v7), (8, .int v8)]) (st' := [.ref v0, .int (v7 * (1440 : Int32)), .ref v4]) rfl ?_
        refine xZ.k_gI (me := xm164) hP_164 rfl (fun x1 => ?_)
        refine xZ.adv (me := xm164) hP_164 1 (pc' := 58) (lv' := [(0, .ref v0), (1, .ref v1), (2, .int v2), (3, .int v3), (4, .ref v4), (5, .int v5), (6, .int v6), (7, .int v7), (8, .int v8)]) (st' := [.int ((v7 * (1440 : Int32)) + x1), .ref v4]) rfl ?_
        refine xZ.callv (κ := oI) (av := [.int ((v7 * (1440 : Int32)) + x1)]) (rest := []) (st' := fun x2 => [.int x2]) (k0 := v4) (me := xm164) hP_164 rfl (Or.inl rfl) ⟨rfl, by decide⟩ rfl rfl (Nat.le_of_ble_eq_true rfl) (by decide) hP_105 (Nat.le_of_ble_eq_true rfl) (fun _ => rfl) (k_f_Zone_commonOf O f (d + 1) v4 ((v7 * (1440 : Int32)) + x1) M) (fun x2 M1 => ?_)
        refine xZ.adv (me := xm164) hP_164 5 (pc' := 69) (lv' := [(9, .int (x2 - v3)), (0, .ref v0), (1, .ref v1), (2, .int v2), (3, .int v3), (4, .ref v4), (5, .int v5), (6, .int v6), (7, .int v7), (8, .int v8)]) (st' := [.int v6, .int (x2 - v3)]) rfl ?_
        refine xZ.ic_lt (me := xm164) hP_164 rfl (fun h3 => ?_) (fun h3 => ?_)
        · skip
          refine xZ.adv (me := xm164) hP_164 2 (pc' := 79) (lv' := [(9, .int (x2 - v3)), (0, .ref v0), (1, .ref v1), (2, .int v2), (3, .int v3), (4, .ref v4), (5, .int v5), (6, .int v6), (7, .int v7), (8, .int v8)]) (st' := [.int v5, .int (x2 - v3)]) rfl ?_
          refine xZ.ic_lt (me := xm164) hP_164 rfl (fun h4 => ?_) (fun h4 => ?_)
          · skip
            exact xZ.sub (xsc (.tail _ (.head _)) (xsc (.tail _ (.tail _ (.head _))) (xsc (.tail _ (.tail _ (.tail _ (.head _)))) (xsc (.tail _ (.tail _ (.tail _ (.tail _ (.head _))))) (xsc (.tail _ (.tail _ (.tail _ (.tail _ (.tail _ (.head _)))))) (xsc (.tail _ (.tail _ (.tail _ (.tail _ (.tail _ (.tail _ (.head _))))))) (xsc (.tail _ (.tail _ (.tail _ (.tail _ (.tail _ (.tail _ (.tail _ (.head _)))))))) (xsc (.tail _ (.tail _ (.tail _ (.tail _ (.tail _ (.tail _ (.tail _ (.tail _ (.head _))))))))) (xsc (.tail _ (.tail _ (.tail _ (.tail _ (.tail _ (.tail _ (.tail _ (.tail _ (.tail _ (.head _)))))))))) xsn))))))))) (show ([9, 0, 1, 2, 3, 4, 5, 6, 7, 8] : List Nat).Nodup from by decide) (k_f_Series_addRows_105 O f d (f_Series_addRows_31 O f n) ih v0 v1 v2 v3 v4 v5 v6 v7 v8 M1)
          · skip
            refine xZ.adv (me := xm164) hP_164 2 (pc' := 85) (lv' := [(9, .int (x2 - v3)), (0, .ref v0), (1, .ref v1), (2, .int v2), (3, .int v3), (4, .ref v4), (5, .int v5), (6, .int v6), (7, .int v7), (8, .int v8)]) (st' := [.int v7, .ref v0]) rfl ?_
            refine xZ.callv (κ := oI) (av := [.int v7]) (rest := []) (st' := fun x3 => [.int x3]) (k0 := v0) (me := xm164) hP_164 rfl (Or.inl rfl) ⟨rfl, by decide⟩ rfl rfl (Nat.le_of_ble_eq_true rfl) (by decide) hP_104 (Nat.le_of_ble_eq_true rfl) (fun _ => rfl) (k_f_Series_exceptionOf O f (d + 4) v0 v7 M1) (fun x3 M2 => ?_)
            refine xZ.adv (me := xm164) hP_164 1 (pc' := 89) (lv' := [(9, .int (x2 - v3)), (0, .ref v0), (1, .ref v1), (2, .int v2), (3, .int v3), (4, .ref v4), (5, .int v5), (6, .int v6), (7, .int v7), (8, .int v8)]) (st' := [.int (-1 : Int32), .int x3]) rfl ?_
            refine xZ.ic_ne (me := xm164) hP_164 rfl (fun h5 => ?_) (fun h5 => ?_)
            · skip
              refine xZ.adv (me := xm164) hP_164 5 (pc' := 99) (lv' := [(9, .int (x2 - v3)), (0, .ref v0), (1, .ref v1), (2, .int v2), (3, .int v3), (4, .ref v4), (5, .int v5), (6, .int v6), (7, .int v7), (8, .int v8)]) (st' := [.int (0 : Int32), .int v7, .int v2, .int (x2 - v3), .ref v1]) rfl ?_
              refine xZ.calls (κ := oL) (av := [.int (x2 - v3), .int v2, .int v7, .int (0 : Int32)]) (rest := [.ref v1]) (st' := fun x4 => [.long x4, .ref v1]) (me := xm164) hP_164 rfl rfl rfl (Nat.le_of_ble_eq_true rfl) (by decide) hP_122 (Nat.le_of_ble_eq_true rfl) (fun _ => rfl) (k_f_Dates_row O f (d + 4) (x2 - v3) v2 v7 (0 : Int32) M2) (fun x4 M3 => ?_)
              refine xZ.callv (κ := oU) (av := [.long x4]) (rest := []) (st' := fun _ => []) (k0 := v1) (me := xm164) hP_164 rfl (Or.inl rfl) ⟨rfl, by decide⟩ rfl rfl (Nat.le_of_ble_eq_true rfl) (by decide) hP_166 (Nat.le_of_ble_eq_true rfl) (fun _ => rfl) (k_f_Dates_add O f (d + 3) v1 x4 M3) (fun _ M4 => ?_)
              exact xZ.sub (xsc (.tail _ (.head _)) (xsc (.tail _ (.tail _ (.head _))) (xsc (.tail _ (.tail _ (.tail _ (.head _)))) (xsc (.tail _ (.tail _ (.tail _ (.tail _ (.head _))))) (xsc (.tail _ (.tail _ (.tail _ (.tail _ (.tail _ (.head _)))))) (xsc (.tail _ (.tail _ (.tail _ (.tail _ (.tail _ (.tail _ (.head _))))))) (xsc (.tail _ (.tail _ (.tail _ (.tail _ (.tail _ (.tail _ (.tail _ (.head _)))))))) (xsc (.tail _ (.tail _ (.tail _ (.tail _ (.tail _ (.tail _ (.tail _ (.tail _ (.head _))))))))) (xsc (.tail _ (.tail _ (.tail _ (.tail _ (.tail _ (.tail _ (.tail _ (.tail _ (.tail _ (.head _)))))))))) xsn))))))))) (show ([9, 0, 1, 2, 3, 4, 5, 6, 7, 8] : List Nat).Nodup from by decide) (k_f_Series_addRows_105 O f d (f_Series_addRows_31 O f n) ih v0 v1 v2 v3 v4 v5 v6 v7 v8 M4)
            · skip
              exact xZ.sub (xsc (.tail _ (.head _)) (xsc (.tail _ (.tail _ (.head _))) (xsc (.tail _ (.tail _ (.tail _ (.head _)))) (xsc (.tail _ (.tail _ (.tail _ (.tail _ (.head _))))) (xsc (.tail _ (.tail _ (.tail _ (.tail _ (.tail _ (.head _)))))) (xsc (.tail _ (.tail _ (.tail _ (.tail _ (.tail _ (.tail _ (.head _))))))) (xsc (.tail _ (.tail _ (.tail _ (.tail _ (.tail _ (.tail _ (.tail _ (.head _)))))))) (xsc (.tail _ (.tail _ (.tail _ (.tail _ (.tail _ (.tail _ (.tail _ (.tail _ (.head _))))))))) (xsc (.tail _ (.tail _ (.tail _ (.tail _ (.tail _ (.tail _ (.tail _ (.tail _ (.tail _ (.head _)))))))))) xsn))))))))) (show ([9, 0, 1, 2, 3, 4, 5, 6, 7, 8] : List Nat).Nodup from by decide) (k_f_Series_addRows_105 O f d (f_Series_addRows_31 O f n) ih v0 v1 v2 v3 v4 v5 v6 v7 v8 M2)
        · skip
          refine xZ.adv (me := xm164) hP_164 1 (pc' := 124) (lv' := [(9, .int (x2 - v3)), (0, .ref v0), (1, .ref v1), (2, .int v2), (3, .int v3), (4, .ref v4), (5, .int v5), (6, .int v6), (7, .int v7), (8, .int v8)]) (st' := []) rfl ?_
          exact xZ.sub (xsc (.tail _ (.head _)) (xsc (.tail _ (.tail _ (.head _))) (xsc (.tail _ (.tail _ (.tail _ (.head _)))) (xsc (.tail _ (.tail _ (.tail _ (.tail _ (.head _))))) (xsc (.tail _ (.tail _ (.tail _ (.tail _ (.tail _ (.head _)))))) (xsc (.tail _ (.tail _ (.tail _ (.tail _ (.tail _ (.tail _ (.head _))))))) (xsc (.tail _ (.tail _ (.tail _ (.tail _ (.tail _ (.tail _ (.tail _ (.head _)))))))) xsn))))))) (show ([9, 0, 1, 2, 3, 4, 5, 6, 7, 8] : List Nat).Nodup from by decide) (k_f_Series_addRows_124 O f d v0 v1 v2 v3 v4 v5 v6 M1)
def f_Series_addRows (O : Nat → Option va_E) (f : Nat) (v0 : Nat) (v1 : Nat) (v2 : Int32) (v3 : Int32) (v4 : Nat) (v5 : Int32) (v6 : Int32) (M : xM) : Option (Unit × xM) :=
  (gI O M v0 10 3).bind fun x1 =>
  (isO O M v1 2).bind fun _ =>
  xcl (f_Dates_putLength O f v1 v2 x1 M) fun _ M1 =>
  (gR O M1 v0 10 6).bind fun x3 =>
  (isO O M1 v0 10).bind fun _ =>
  xcl (f_Series_earliestDay O f v0 v4 (v5 + v3) M1) fun x4 M2 =>
  (isO O M2 x3 9).bind fun _ =>
  xcl (f_Rule_next O f x3 x4 M2) fun x5 M3 =>
  f_Series_addRows_31 O f f v0 v1 v2 v3 v4 v5 v6 x5 (0 : Int32) M3
set_option maxRecDepth 20000 in
theorem k_f_Series_addRows (O : Nat → Option va_E) (f d : Nat) (v0 : Nat) (v1 : Nat) (v2 : Int32) (v3 : Int32) (v4 : Nat) (v5 : Int32) (v6 : Int32) (M : xM) : xZ oU O (d + 5) 164 0 [(0, .ref v0), (1, .ref v1), (2, .int v2), (3, .int v3), (4, .ref v4), (5, .int v5), (6, .int v6)] [] M (f_Series_addRows O f v0 v1 v2 v3 v4 v5 v6 M) := by
  unfold f_Series_addRows
  refine xZ.adv (me := xm164) hP_164 3 (pc' := 3) (lv' := [(0, .ref v0), (1, .ref v1), (2, .int v2), (3, .int v3), (4, .ref v4), (5, .int v5), (6, .int v6)]) (st' := [.ref v0, .int v2, .ref v1]) rfl ?_
  refine xZ.k_gI (me := xm164) hP_164 rfl (fun x1 => ?_)
  refine xZ.callv (κ := oU) (av := [.int v2, .int x1]) (rest := []) (st' := fun _ => []) (k0 := v1) (me := xm164) hP_164 rfl (Or.inl rfl) ⟨rfl, by decide⟩ rfl rfl (Nat.le_of_ble_eq_true rfl) (by decide) hP_165 (Nat.le_of_ble_eq_true rfl) (fun _ => rfl) (k_f_Dates_putLength O f (d + 4) v1 v2 x1 M) (fun _ M1 => ?_)
  refine xZ.adv (me := xm164) hP_164 1 (pc' := 10) (lv' := [(0, .ref v0), (1, .ref v1), (2, .int v2), (3, .int v3), (4, .ref v4), (5, .int v5), (6, .int v6)]) (st' := [.ref v0]) rfl ?_
  refine xZ.k_gR (me := xm164) hP_164 rfl (fun x3 => ?_)
  refine xZ.adv (me := xm164) hP_164 5 (pc' := 20) (lv' := [(0, .ref v0), (1, .ref v1), (2, .int v2), (3, .int v3), (4, .ref v4), (5, .int v5), (6, .int v6)]) (st' := [.int (v5 + v3), .ref v4, .ref v0, .ref x3]) rfl ?_
  refine xZ.callv (κ := oI) (av := [.ref v4, .int (v5 + v3)]) (rest := [.ref x3]) (st' := fun x4 => [.int x4, .ref x3]) (k0 := v0) (me := xm164) hP_164 rfl (Or.inl rfl) ⟨rfl, by decide⟩ rfl rfl (Nat.le_of_ble_eq_true rfl) (by decide) hP_118 (Nat.le_of_ble_eq_true rfl) (fun _ => rfl) (k_f_Series_earliestDay O f (d + 4) v0 v4 (v5 + v3) M1) (fun x4 M2 => ?_)
  refine xZ.callv (κ := oI) (av := [.int x4]) (rest := []) (st' := fun x5 => [.int x5]) (k0 := x3) (me := xm164) hP_164 rfl (Or.inl rfl) ⟨rfl, by decide⟩ rfl rfl (Nat.le_of_ble_eq_true rfl) (by decide) hP_45 (Nat.le_of_ble_eq_true rfl) (fun _ => rfl) (k_f_Rule_next O f (d + 0) x3 x4 M2) (fun x5 M3 => ?_)
  refine xZ.adv (me := xm164) hP_164 3 (pc' := 31) (lv' := [(8, .int (0 : Int32)), (7, .int x5), (0, .ref v0), (1, .ref v1), (2, .int v2), (3, .int v3), (4, .ref v4), (5, .int v5), (6, .int v6)]) (st' := []) rfl ?_
  exact xZ.sub (xsc (.tail _ (.tail _ (.head _))) (xsc (.tail _ (.tail _ (.tail _ (.head _)))) (xsc (.tail _ (.tail _ (.tail _ (.tail _ (.head _))))) (xsc (.tail _ (.tail _ (.tail _ (.tail _ (.tail _ (.head _)))))) (xsc (.tail _ (.tail _ (.tail _ (.tail _ (.tail _ (.tail _ (.head _))))))) (xsc (.tail _ (.tail _ (.tail _ (.tail _ (.tail _ (.tail _ (.tail _ (.head _)))))))) (xsc (.tail _ (.tail _ (.tail _ (.tail _ (.tail _ (.tail _ (.tail _ (.tail _ (.head _))))))))) (xsc (.tail _ (.head _)) (xsc (.head _) xsn))))))))) (show ([8, 7, 0, 1, 2, 3, 4, 5, 6] : List Nat).Nodup from by decide) (k_f_Series_addRows_31 O f d f v0 v1 v2 v3 v4 v5 v6 x5 (0 : Int32) M3)
def f_Hall_collectOn_7 (O : Nat → Option va_E) (f : Nat) : Nat → Nat → Nat → Int32 → Int32 → Int32 → Int32 → xM → Option (Unit × xM)
  | 0, _, _, _, _, _, _, _ => none
  | n + 1, v0, v1, v2, v3, v4, v5, M =>
    (gR O M v0 4 3).bind fun x1 =>
    (aN O M x1).bind fun x2 =>
    if x2 ≤ v5 then (
      some ((), M)
    ) else
    (gR O M v0 4 3).bind fun x3 =>
    (aR O M x3 v5).bind fun x4 =>
    (gI O M x4 10 0).bind fun x5 =>
    if x5 = 0 then (
      f_Hall_collectOn_7 O f n v0 v1 v2 v3 v4 (v5 + (1 : Int32)) M
    ) else
    if ((v2 >>> (v5 &&& 31)) &&& (1 : Int32)) = 0 then (
      f_Hall_collectOn_7 O f n v0 v1 v2 v3 v4 (v5 + (1 : Int32)) M
    ) else
    (gR O M v0 4 3).bind fun x6 =>
    (aR O M x6 v5).bind fun x7 =>
    (gR O M v0 4 3).bind fun x8 =>
    (aR O M x8 v5).bind fun x9 =>
    (isO O M v0 4).bind fun _ =>
    xcl (f_Hall_zoneOf O f v0 x9 M) fun x10 M1 =>
    (gR O M1 v0 4 3).bind fun x11 =>
    (aR O M1 x11 v5).bind fun x12 =>
    (gI O M1 x12 10 3).bind fun x13 =>
    (isO O M1 x7 10).bind fun _ =>
    xcl (f_Series_addRows O f x7 v1 v5 (0 : Int32) x10 ((v3 - x13) + (1 : Int32)) v4 M1) fun _ M2 =>
    f_Hall_collectOn_7 O f n v0 v1 v2 v3 v4 (v5 + (1 : Int32)) M2
set_option maxRecDepth 20000 in
theorem k_f_Hall_collectOn_7 (O : Nat → Option va_E) (f d : Nat) : ∀ (n : Nat) (v0 : Nat) (v1 : Nat) (v2 : Int32) (v3 : Int32) (v4 : Int32) (v5 : Int32) (M : xM), xZ oU O (d + 6) 162 7 [(0, .ref v0), (1, .ref v1), (2, .int v2), (3, .int v3), (4, .int v4), (5, .int v5)] [] M (f_Hall_collectOn_7 O f n v0 v1 v2 v3 v4 v5 M) := by
  intro n
  induction n with
  | zero =>
    intro v0 v1 v2 v3 v4 v5 M
    exact xZ.no
  | succ n ih =>
    intro v0 v1 v2 v3 v4 v5 M
    unfold f_Hall_collectOn_7
    refine xZ.adv (me := xm162) hP_162 2 (pc' := 10) (lv' := [(0, .ref v0), (1, .ref v1), (2, .int v2), (3, .int v3), (4, .int v4), (5, .int v5)]) (st' := [.ref v0, .int v5]) rfl ?_
    refine xZ.k_gR (me := xm162) hP_162 rfl (fun x1 => ?_)
    refine xZ.k_aN (me := xm162) hP_162 rfl (fun x2 => ?_)
    refine xZ.ic_ge (me := xm162) hP_162 rfl (fun h1 => ?_) (fun h1 => ?_)
    · skip
      exact xZ.retu (me := xm162) hP_162 rfl rfl
    · skip
      refine xZ.adv (me := xm162) hP_162 1 (pc' := 18) (lv' := [(0, .ref v0), (1, .ref v1), (2, .int v2), (3, .int v3), (4, .int v4), (5, .int v5)]) (st' := [.ref v0]) rfl ?_
      refine xZ.k_gR (me := xm162) hP_162 rfl (fun x3 => ?_)
      refine xZ.adv (me := xm162) hP_162 1 (pc' := 23) (lv' := [(0, .ref v0), (1, .ref v1), (2, .int v2), (3, .int v3), (4, .int v4), (5, .int v5)]) (st' := [.int v5, .ref x3]) rfl ?_
      refine xZ.k_aR (me := xm162) hP_162 rfl (fun x4 => ?_)
      refine xZ.k_gI (me := xm162) hP_162 rfl (fun x5 => ?_)
      refine xZ.if_eq (me := xm162) hP_162 rfl (fun h2 => ?_) (fun h2 => ?_)
      · skip
        refine xZ.adv (me := xm162) hP_162 2 (pc' := 7) (lv' := [(5, .int (v5 + (1 : Int32))), (0, .ref v0), (1, .ref v1), (2, .int v2), (3, .int v3), (4, .int v4)]) (st' := []) rfl ?_
        exact xZ.sub (xsc (.tail _ (.head _)) (xsc (.tail _ (.tail _ (.head _))) (xsc (.tail _ (.tail _ (.tail _ (.head _)))) (xsc (.tail _ (.tail _ (.tail _ (.tail _ (.head _))))) (xsc (.tail _ (.tail _ (.tail _ (.tail _ (.tail _ (.head _)))))) (xsc (.head _) xsn)))))) (show ([5, 0, 1, 2, 3, 4] : List Nat).Nodup from by decide) (ih v0 v1 v2 v3 v4 (v5 + (1 : Int32)) M)
      · skip
        refine xZ.adv (me := xm162) hP_162 5 (pc' := 36) (lv' := [(0, .ref v0), (1, .ref v1), (2, .int v2), (3, .int v3), (4, .int v4), (5, .int v5)]) (st' := [.int ((v2 >>> (v5 &&& 31)) &&& (1 : Int32))]) rfl ?_
        refine xZ.if_ne (me := xm162) hP_162 rfl (fun h3 => ?_) (fun h3 => ?_)
        · skip
          refine xZ.adv (me := xm162) hP_162 3 (pc' := 7) (lv' := [(5, .int (v5 + (1 : Int32))), (0, .ref v0), (1, .ref v1), (2, .int v2), (3, .int v3), (4, .int v4)]) (st' := []) rfl ?_
          exact xZ.sub (xsc (.tail _ (.head _)) (xsc (.tail _ (.tail _ (.head _))) (xsc (.tail _ (.tail _ (.tail _ (.head _)))) (xsc (.tail _ (.tail _ (.tail _ (.tail _ (.head _))))) (xsc (.tail _ (.tail _ (.tail _ (.tail _ (.tail _ (.head _)))))) (xsc (.head _) xsn)))))) (show ([5, 0, 1, 2, 3, 4] : List Nat).Nodup from by decide) (ih v0 v1 v2 v3 v4 (v5 + (1 : Int32)) M)
        · skip
          refine xZ.adv (me := xm162) hP_162 1 (pc' := 43) (lv' := [(0, .ref v0), (1, .ref v1), (2, .int v2), (3, .int v3), (4, .int v4), (5, .int v5)]) (st' := [.ref v0]) rfl ?_
          refine xZ.k_gR (me := xm162) hP_162 rfl (fun x6 => ?_)
          refine xZ.adv (me := xm162) hP_162 1 (pc' := 48) (lv' := [(0, .ref v0), (1, .ref v1), (2, .int v2), (3, .int v3), (4, .int v4), (5, .int v5)]) (st' := [.int v5, .ref x6]) rfl ?_
          refine xZ.k_aR (me := xm162) hP_162 rfl (fun x7 => ?_)
          refine xZ.adv (me := xm162) hP_162 5 (pc' := 55) (lv' := [(0, .ref v0), (1, .ref v1), (2, .int v2), (3, .int v3), (4, .int v4), (5, .int v5)]) (st' := [.ref v0, .ref v0, .int (0 : Int32), .int v5, .ref v1, .ref x7]) rfl ?_
          refine xZ.k_gR (me := xm162) hP_162 rfl (fun x8 => ?_)
          refine xZ.adv (me := xm162) hP_162 1 (pc' := 60) (lv' := [(0, .ref v0), (1, .ref v1), (2, .int v2), (3, .int v3), (4, .int v4), (5, .int v5)]) (st' := [.int v5, .ref x8, .ref v0, .int (0 : Int32), .int v5, .ref v1, .ref x7]) rfl ?_
          refine xZ.k_aR (me := xm162) hP_162 rfl (fun x9 => ?_)
          refine xZ.callv (κ := oR) (av := [.ref x9]) (rest := [.int (0 : Int32), .int v5, .ref v1, .ref x7]) (st' := fun x10 => [.ref x10, .int (0 : Int32), .int v5, .ref v1, .ref x7]) (k0 := v0) (me := xm162) hP_162 rfl (Or.inl rfl) ⟨rfl, by decide⟩ rfl rfl (Nat.le_of_ble_eq_true rfl) (by decide) hP_102 (Nat.le_of_ble_eq_true rfl) (fun _ => rfl) (k_f_Hall_zoneOf O f (d + 4) v0 x9 M) (fun x10 M1 => ?_)
          refine xZ.adv (me := xm162) hP_162 2 (pc' := 66) (lv' := [(0, .ref v0), (1, .ref v1), (2, .int v2), (3, .int v3), (4, .int v4), (5, .int v5)]) (st' := [.ref v0, .int v3, .ref x10, .int (0 : Int32), .int v5, .ref v1, .ref x7]) rfl ?_
          refine xZ.k_gR (me := xm162) hP_162 rfl (fun x11 => ?_)
          refine xZ.adv (me := xm162) hP_162 1 (pc' := 71) (lv' := [(0, .ref v0), (1, .ref v1), (2, .int v2), (3, .int v3), (4, .int v4), (5, .int v5)]) (st' := [.int v5, .ref x11, .int v3, .ref x10, .int (0 : Int32), .int v5, .ref v1, .ref x7]) rfl ?_
          refine xZ.k_aR (me := xm162) hP_162 rfl (fun x12 => ?_)
          refine xZ.k_gI (me := xm162) hP_162 rfl (fun x13 => ?_)
          refine xZ.adv (me := xm162) hP_162 4 (pc' := 80) (lv' := [(0, .ref v0), (1, .ref v1), (2, .int v2), (3, .int v3), (4, .int v4), (5, .int v5)]) (st' := [.int v4, .int ((v3 - x13) + (1 : Int32)), .ref x10, .int (0 : Int32), .int v5, .ref v1, .ref x7]) rfl ?_
          refine xZ.callv (κ := oU) (av := [.ref v1, .int v5, .int (0 : Int32), .ref x10, .int ((v3 - x13) + (1 : Int32)), .int v4]) (rest := []) (st' := fun _ => []) (k0 := x7) (me := xm162) hP_162 rfl (Or.inl rfl) ⟨rfl, by decide⟩ rfl rfl (Nat.le_of_ble_eq_true rfl) (by decide) hP_164 (Nat.le_of_ble_eq_true rfl) (fun _ => rfl) (k_f_Series_addRows O f (d + 0) x7 v1 v5 (0 : Int32) x10 ((v3 - x13) + (1 : Int32)) v4 M1) (fun _ M2 => ?_)
          refine xZ.adv (me := xm162) hP_162 2 (pc' := 7) (lv' := [(5, .int (v5 + (1 : Int32))), (0, .ref v0), (1, .ref v1), (2, .int v2), (3, .int v3), (4, .int v4)]) (st' := []) rfl ?_
          exact xZ.sub (xsc (.tail _ (.head _)) (xsc (.tail _ (.tail _ (.head _))) (xsc (.tail _ (.tail _ (.tail _ (.head _)))) (xsc (.tail _ (.tail _ (.tail _ (.tail _ (.head _))))) (xsc (.tail _ (.tail _ (.tail _ (.tail _ (.tail _ (.head _)))))) (xsc (.head _) xsn)))))) (show ([5, 0, 1, 2, 3, 4] : List Nat).Nodup from by decide) (ih v0 v1 v2 v3 v4 (v5 + (1 : Int32)) M2)
def f_Hall_collectOn (O : Nat → Option va_E) (f : Nat) (v0 : Nat) (v1 : Nat) (v2 : Int32) (v3 : Int32) (v4 : Int32) (M : xM) : Option (Unit × xM) :=
  (isO O M v1 2).bind fun _ =>
  xcl (f_Dates_clear O f v1 M) fun _ M1 =>
  f_Hall_collectOn_7 O f f v0 v1 v2 v3 v4 (0 : Int32) M1
set_option maxRecDepth 20000 in
theorem k_f_Hall_collectOn (O : Nat → Option va_E) (f d : Nat) (v0 : Nat) (v1 : Nat) (v2 : Int32) (v3 : Int32) (v4 : Int32) (M : xM) : xZ oU O (d + 6) 162 0 [(0, .ref v0), (1, .ref v1), (2, .int v2), (3, .int v3), (4, .int v4)] [] M (f_Hall_collectOn O f v0 v1 v2 v3 v4 M) := by
  unfold f_Hall_collectOn
  refine xZ.adv (me := xm162) hP_162 1 (pc' := 1) (lv' := [(0, .ref v0), (1, .ref v1), (2, .int v2), (3, .int v3), (4, .int v4)]) (st' := [.ref v1]) rfl ?_
  refine xZ.callv (κ := oU) (av := []) (rest := []) (st' := fun _ => []) (k0 := v1) (me := xm162) hP_162 rfl (Or.inl rfl) ⟨rfl, by decide⟩ rfl rfl (Nat.le_of_ble_eq_true rfl) (by decide) hP_163 (Nat.le_of_ble_eq_true rfl) (fun _ => rfl) (k_f_Dates_clear O f (d + 5) v1 M) (fun _ M1 => ?_)
  refine xZ.adv (me := xm162) hP_162 2 (pc' := 7) (lv' := [(5, .int (0 : Int32)), (0, .ref v0), (1, .ref v1), (2, .int v2), (3, .int v3), (4, .int v4)]) (st' := []) rfl ?_
  exact xZ.sub (xsc (.tail _ (.head _)) (xsc (.tail _ (.tail _ (.head _))) (xsc (.tail _ (.tail _ (.tail _ (.head _)))) (xsc (.tail _ (.tail _ (.tail _ (.tail _ (.head _))))) (xsc (.tail _ (.tail _ (.tail _ (.tail _ (.tail _ (.head _)))))) (xsc (.head _) xsn)))))) (show ([5, 0, 1, 2, 3, 4] : List Nat).Nodup from by decide) (k_f_Hall_collectOn_7 O f d f v0 v1 v2 v3 v4 (0 : Int32) M1)
def f_Dates_minuteOf (O : Nat → Option va_E) (f : Nat) (v0 : Int64) (M : xM) : Option (Int32 × xM) :=
  some ((Int64.toInt32 (v0 >>> (Int32.toInt64 (23 : Int32) &&& 63))), M)
set_option maxRecDepth 20000 in
theorem k_f_Dates_minuteOf (O : Nat → Option va_E) (f d : Nat) (v0 : Int64) (M : xM) : xZ oI O (d + 0) 172 0 [(0, .long v0)] [] M (f_Dates_minuteOf O f v0 M) := by
  unfold f_Dates_minuteOf
  refine xZ.adv (me := xm172) hP_172 4 (pc' := 5) (lv' := [(0, .long v0)]) (st' := [.int (Int64.toInt32 (v0 >>> (Int32.toInt64 (23 : Int32) &&& 63)))]) rfl ?_
  exact xZ.reti (me := xm172) hP_172 rfl rfl
def f_Dates_beginAt (O : Nat → Option va_E) (f : Nat) (v0 : Nat) (v1 : Int32) (M : xM) : Option (Int32 × xM) :=
  (isO O M v0 2).bind fun _ =>
  xcl (f_Dates_rowAt O f v0 v1 M) fun x1 M1 =>
  xcl (f_Dates_minuteOf O f x1 M1) fun x2 M2 =>
  some (x2, M2)
set_option maxRecDepth 20000 in
theorem k_f_Dates_beginAt (O : Nat → Option va_E) (f d : Nat) (v0 : Nat) (v1 : Int32) (M : xM) : xZ oI O (d + 1) 171 0 [(0, .ref v0), (1, .int v1)] [] M (f_Dates_beginAt O f v0 v1 M) := by
  unfold f_Dates_beginAt
  refine xZ.adv (me := xm171) hP_171 2 (pc' := 2) (lv' := [(0, .ref v0), (1, .int v1)]) (st' := [.int v1, .ref v0]) rfl ?_
  refine xZ.callv (κ := oL) (av := [.int v1]) (rest := []) (st' := fun x1 => [.long x1]) (k0 := v0) (me := xm171) hP_171 rfl (Or.inl rfl) ⟨rfl, by decide⟩ rfl rfl (Nat.le_of_ble_eq_true rfl) (by decide) hP_167 (Nat.le_of_ble_eq_true rfl) (fun _ => rfl) (k_f_Dates_rowAt O f (d + 0) v0 v1 M) (fun x1 M1 => ?_)
  refine xZ.calls (κ := oI) (av := [.long x1]) (rest := []) (st' := fun x2 => [.int x2]) (me := xm171) hP_171 rfl rfl rfl (Nat.le_of_ble_eq_true rfl) (by decide) hP_172 (Nat.le_of_ble_eq_true rfl) (fun _ => rfl) (k_f_Dates_minuteOf O f (d + 0) x1 M1) (fun x2 M2 => ?_)
  exact xZ.reti (me := xm171) hP_171 rfl rfl
def f_Dates_numberOf (O : Nat → Option va_E) (f : Nat) (v0 : Int64) (M : xM) : Option (Int32 × xM) :=
  some (((Int64.toInt32 (v0 >>> (Int32.toInt64 (19 : Int32) &&& 63))) &&& (15 : Int32)), M)
set_option maxRecDepth 20000 in
theorem k_f_Dates_numberOf (O : Nat → Option va_E) (f d : Nat) (v0 : Int64) (M : xM) : xZ oI O (d + 0) 174 0 [(0, .long v0)] [] M (f_Dates_numberOf O f v0 M) := by
  unfold f_Dates_numberOf
  refine xZ.adv (me := xm174) hP_174 6 (pc' := 8) (lv' := [(0, .long v0)]) (st' := [.int ((Int64.toInt32 (v0 >>> (Int32.toInt64 (19 : Int32) &&& 63))) &&& (15 : Int32))]) rfl ?_
  exact xZ.reti (me := xm174) hP_174 rfl rfl
def f_Dates_lengthAt (O : Nat → Option va_E) (f : Nat) (v0 : Nat) (v1 : Int32) (M : xM) : Option (Int32 × xM) :=
  (gR O M v0 2 2).bind fun x1 =>
  (isO O M v0 2).bind fun _ =>
  xcl (f_Dates_rowAt O f v0 v1 M) fun x2 M1 =>
  xcl (f_Dates_numberOf O f x2 M1) fun x3 M2 =>
  (aI O M2 x1 x3).bind fun x4 =>
  some (x4, M2)
set_option maxRecDepth 20000 in
theorem k_f_Dates_lengthAt (O : Nat → Option va_E) (f d : Nat) (v0 : Nat) (v1 : Int32) (M : xM) : xZ oI O (d + 1) 173 0 [(0, .ref v0), (1, .int v1)] [] M (f_Dates_lengthAt O f v0 v1 M) := by
  unfold f_Dates_lengthAt
  refine xZ.adv (me := xm173) hP_173 1 (pc' := 1) (lv' := [(0, .ref v0), (1, .int v1)]) (st' := [.ref v0]) rfl ?_
  refine xZ.k_gR (me := xm173) hP_173 rfl (fun x1 => ?_)
  refine xZ.adv (me := xm173) hP_173 2 (pc' := 6) (lv' := [(0, .ref v0), (1, .int v1)]) (st' := [.int v1, .ref v0, .ref x1]) rfl ?_
  refine xZ.callv (κ := oL) (av := [.int v1]) (rest := [.ref x1]) (st' := fun x2 => [.long x2, .ref x1]) (k0 := v0) (me := xm173) hP_173 rfl (Or.inl rfl) ⟨rfl, by decide⟩ rfl rfl (Nat.le_of_ble_eq_true rfl) (by decide) hP_167 (Nat.le_of_ble_eq_true rfl) (fun _ => rfl) (k_f_Dates_rowAt O f (d + 0) v0 v1 M) (fun x2 M1 => ?_)
  refine xZ.calls (κ := oI) (av := [.long x2]) (rest := [.ref x1]) (st' := fun x3 => [.int x3, .ref x1]) (me := xm173) hP_173 rfl rfl rfl (Nat.le_of_ble_eq_true rfl) (by decide) hP_174 (Nat.le_of_ble_eq_true rfl) (fun _ => rfl) (k_f_Dates_numberOf O f (d + 0) x2 M1) (fun x3 M2 => ?_)
  refine xZ.k_aI (me := xm173) hP_173 rfl (fun x4 => ?_)
  exact xZ.reti (me := xm173) hP_173 rfl rfl
def f_Dates_endAt (O : Nat → Option va_E) (f : Nat) (v0 : Nat) (v1 : Int32) (M : xM) : Option (Int32 × xM) :=
  (isO O M v0 2).bind fun _ =>
  xcl (f_Dates_beginAt O f v0 v1 M) fun x1 M1 =>
  (isO O M1 v0 2).bind fun _ =>
  xcl (f_Dates_lengthAt O f v0 v1 M1) fun x2 M2 =>
  some ((x1 + x2), M2)
set_option maxRecDepth 20000 in
theorem k_f_Dates_endAt (O : Nat → Option va_E) (f d : Nat) (v0 : Nat) (v1 : Int32) (M : xM) : xZ oI O (d + 2) 170 0 [(0, .ref v0), (1, .int v1)] [] M (f_Dates_endAt O f v0 v1 M) := by
  unfold f_Dates_endAt
  refine xZ.adv (me := xm170) hP_170 2 (pc' := 2) (lv' := [(0, .ref v0), (1, .int v1)]) (st' := [.int v1, .ref v0]) rfl ?_
  refine xZ.callv (κ := oI) (av := [.int v1]) (rest := []) (st' := fun x1 => [.int x1]) (k0 := v0) (me := xm170) hP_170 rfl (Or.inl rfl) ⟨rfl, by decide⟩ rfl rfl (Nat.le_of_ble_eq_true rfl) (by decide) hP_171 (Nat.le_of_ble_eq_true rfl) (fun _ => rfl) (k_f_Dates_beginAt O f (d + 0) v0 v1 M) (fun x1 M1 => ?_)
  refine xZ.adv (me := xm170) hP_170 2 (pc' := 7) (lv' := [(0, .ref v0), (1, .int v1)]) (st' := [.int v1, .ref v0, .int x1]) rfl ?_
  refine xZ.callv (κ := oI) (av := [.int v1]) (rest := [.int x1]) (st' := fun x2 => [.int x2, .int x1]) (k0 := v0) (me := xm170) hP_170 rfl (Or.inl rfl) ⟨rfl, by decide⟩ rfl rfl (Nat.le_of_ble_eq_true rfl) (by decide) hP_173 (Nat.le_of_ble_eq_true rfl) (fun _ => rfl) (k_f_Dates_lengthAt O f (d + 0) v0 v1 M1) (fun x2 M2 => ?_)
  refine xZ.adv (me := xm170) hP_170 1 (pc' := 11) (lv' := [(0, .ref v0), (1, .int v1)]) (st' := [.int (x1 + x2)]) rfl ?_
  exact xZ.reti (me := xm170) hP_170 rfl rfl
def f_Dates_onFrom_2 (O : Nat → Option va_E) (f : Nat) : Nat → Nat → Int32 → Int32 → xM → Option (Int32 × xM)
  | 0, _, _, _, _ => none
  | n + 1, v0, v1, v2, M =>
    (gI O M v0 2 0).bind fun x1 =>
    if x1 ≤ v2 then (
      some ((1000000000 : Int32), M)
    ) else
    (isO O M v0 2).bind fun _ =>
    xcl (f_Dates_endAt O f v0 v2 M) fun x2 M1 =>
    if x2 ≤ v1 then (
      f_Dates_onFrom_2 O f n v0 v1 (v2 + (1 : Int32)) M1
    ) else
    (isO O M1 v0 2).bind fun _ =>
    xcl (f_Dates_beginAt O f v0 v2 M1) fun x3 M2 =>
    xcl (f_Math_max O f v1 x3 M2) fun x4 M3 =>
    some (x4, M3)
set_option maxRecDepth 20000 in
theorem k_f_Dates_onFrom_2 (O : Nat → Option va_E) (f d : Nat) : ∀ (n : Nat) (v0 : Nat) (v1 : Int32) (v2 : Int32) (M : xM), xZ oI O (d + 3) 169 2 [(0, .ref v0), (1, .int v1), (2, .int v2)] [] M (f_Dates_onFrom_2 O f n v0 v1 v2 M) := by
  intro n
  induction n with
  | zero =>
    intro v0 v1 v2 M
    exact xZ.no
  | succ n ih =>
    intro v0 v1 v2 M
    unfold f_Dates_onFrom_2
    refine xZ.adv (me := xm169) hP_169 2 (pc' := 4) (lv' := [(0, .ref v0), (1, .int v1), (2, .int v2)]) (st' := [.ref v0, .int v2]) rfl ?_
    refine xZ.k_gI (me := xm169) hP_169 rfl (fun x1 => ?_)
    refine xZ.ic_ge (me := xm169) hP_169 rfl (fun h1 => ?_) (fun h1 => ?_)
    · skip
      refine xZ.adv (me := xm169) hP_169 1 (pc' := 37) (lv' := [(0, .ref v0), (1, .int v1), (2, .int v2)]) (st' := [.int (1000000000 : Int32)]) rfl ?_
      exact xZ.reti (me := xm169) hP_169 rfl rfl
    · skip
      refine xZ.adv (me := xm169) hP_169 2 (pc' := 12) (lv' := [(0, .ref v0), (1, .int v1), (2, .int v2)]) (st' := [.int v2, .ref v0]) rfl ?_
      refine xZ.callv (κ := oI) (av := [.int v2]) (rest := []) (st' := fun x2 => [.int x2]) (k0 := v0) (me := xm169) hP_169 rfl (Or.inl rfl) ⟨rfl, by decide⟩ rfl rfl (Nat.le_of_ble_eq_true rfl) (by decide) hP_170 (Nat.le_of_ble_eq_true rfl) (fun _ => rfl) (k_f_Dates_endAt O f (d + 0) v0 v2 M) (fun x2 M1 => ?_)
      refine xZ.adv (me := xm169) hP_169 1 (pc' := 16) (lv' := [(0, .ref v0), (1, .int v1), (2, .int v2)]) (st' := [.int v1, .int x2]) rfl ?_
      refine xZ.ic_le (me := xm169) hP_169 rfl (fun h2 => ?_) (fun h2 => ?_)
      · skip
        refine xZ.adv (me := xm169) hP_169 2 (pc' := 2) (lv' := [(2, .int (v2 + (1 : Int32))), (0, .ref v0), (1, .int v1)]) (st' := []) rfl ?_
        exact xZ.sub (xsc (.tail _ (.head _)) (xsc (.tail _ (.tail _ (.head _))) (xsc (.head _) xsn))) (show ([2, 0, 1] : List Nat).Nodup from by decide) (ih v0 v1 (v2 + (1 : Int32)) M1)
      · skip
        refine xZ.adv (me := xm169) hP_169 3 (pc' := 22) (lv' := [(0, .ref v0), (1, .int v1), (2, .int v2)]) (st' := [.int v2, .ref v0, .int v1]) rfl ?_
        refine xZ.callv (κ := oI) (av := [.int v2]) (rest := [.int v1]) (st' := fun x3 => [.int x3, .int v1]) (k0 := v0) (me := xm169) hP_169 rfl (Or.inl rfl) ⟨rfl, by decide⟩ rfl rfl (Nat.le_of_ble_eq_true rfl) (by decide) hP_171 (Nat.le_of_ble_eq_true rfl) (fun _ => rfl) (k_f_Dates_beginAt O f (d + 1) v0 v2 M1) (fun x3 M2 => ?_)
        refine xZ.calls (κ := oI) (av := [.int v1, .int x3]) (rest := []) (st' := fun x4 => [.int x4]) (me := xm169) hP_169 rfl rfl rfl (Nat.le_of_ble_eq_true rfl) (by decide) hP_247 (Nat.le_of_ble_eq_true rfl) (fun _ => rfl) (k_f_Math_max O f (d + 2) v1 x3 M2) (fun x4 M3 => ?_)
        exact xZ.reti (me := xm169) hP_169 rfl rfl
def f_Dates_onFrom (O : Nat → Option va_E) (f : Nat) (v0 : Nat) (v1 : Int32) (M : xM) : Option (Int32 × xM) :=
  f_Dates_onFrom_2 O f f v0 v1 (0 : Int32) M
set_option maxRecDepth 20000 in
theorem k_f_Dates_onFrom (O : Nat → Option va_E) (f d : Nat) (v0 : Nat) (v1 : Int32) (M : xM) : xZ oI O (d + 3) 169 0 [(0, .ref v0), (1, .int v1)] [] M (f_Dates_onFrom O f v0 v1 M) := by
  unfold f_Dates_onFrom
  refine xZ.adv (me := xm169) hP_169 2 (pc' := 2) (lv' := [(2, .int (0 : Int32)), (0, .ref v0), (1, .int v1)]) (st' := []) rfl ?_
  exact xZ.sub (xsc (.tail _ (.head _)) (xsc (.tail _ (.tail _ (.head _))) (xsc (.head _) xsn))) (show ([2, 0, 1] : List Nat).Nodup from by decide) (k_f_Dates_onFrom_2 O f d f v0 v1 (0 : Int32) M)
def f_Person_isWorkDay (O : Nat → Option va_E) (f : Nat) (v0 : Nat) (v1 : Int32) (M : xM) : Option (Int32 × xM) :=
  (gI O M v0 6 1).bind fun x1 =>
  xcl (f_Days_weekdayOf O f v1 M) fun x2 M1 =>
  if ((x1 >>> (x2 &&& 31)) &&& (1 : Int32)) = (1 : Int32) then (
    some ((1 : Int32), M1)
  ) else
  some ((0 : Int32), M1)
set_option maxRecDepth 20000 in
theorem k_f_Person_isWorkDay (O : Nat → Option va_E) (f d : Nat) (v0 : Nat) (v1 : Int32) (M : xM) : xZ oI O (d + 1) 176 0 [(0, .ref v0), (1, .int v1)] [] M (f_Person_isWorkDay O f v0 v1 M) := by
  unfold f_Person_isWorkDay
  refine xZ.adv (me := xm176) hP_176 1 (pc' := 1) (lv' := [(0, .ref v0), (1, .int v1)]) (st' := [.ref v0]) rfl ?_
  refine xZ.k_gI (me := xm176) hP_176 rfl (fun x1 => ?_)
  refine xZ.adv (me := xm176) hP_176 1 (pc' := 5) (lv' := [(0, .ref v0), (1, .int v1)]) (st' := [.int v1, .int x1]) rfl ?_
  refine xZ.calls (κ := oI) (av := [.int v1]) (rest := [.int x1]) (st' := fun x2 => [.int x2, .int x1]) (me := xm176) hP_176 rfl rfl rfl (Nat.le_of_ble_eq_true rfl) (by decide) hP_49 (Nat.le_of_ble_eq_true rfl) (fun _ => rfl) (k_f_Days_weekdayOf O f (d + 0) v1 M) (fun x2 M1 => ?_)
  refine xZ.adv (me := xm176) hP_176 4 (pc' := 12) (lv' := [(0, .ref v0), (1, .int v1)]) (st' := [.int (1 : Int32), .int ((x1 >>> (x2 &&& 31)) &&& (1 : Int32))]) rfl ?_
  refine xZ.ic_ne (me := xm176) hP_176 rfl (fun h1 => ?_) (fun h1 => ?_)
  · skip
    refine xZ.adv (me := xm176) hP_176 2 (pc' := 20) (lv' := [(0, .ref v0), (1, .int v1)]) (st' := [.int (1 : Int32)]) rfl ?_
    exact xZ.rete (me := xm176) hP_176 rfl rfl rfl
  · skip
    refine xZ.adv (me := xm176) hP_176 1 (pc' := 20) (lv' := [(0, .ref v0), (1, .int v1)]) (st' := [.int (0 : Int32)]) rfl ?_
    exact xZ.rete (me := xm176) hP_176 rfl rfl rfl
def f_Zone_nextSwitch_103 (O : Nat → Option va_E) (f : Nat) (K31 : Nat → Int32 → Int32 → Int32 → xM → Option (Int32 × xM)) (v0 : Nat) (v2 : Int32) (v3 : Int32) (v4 : Int32) (v6 : Int32) (M : xM) : Option (Int32 × xM) :=
  if v6 ≤ v2 then (
    K31 v0 v2 v3 (v4 + (1 : Int32)) M
  ) else
  if (1000000000 : Int32) ≤ v6 then (
    K31 v0 v2 v3 (v4 + (1 : Int32)) M
  ) else
  (gI O M v0 11 0).bind fun x1 =>
  some ((v6 - x1), M)
set_option maxRecDepth 20000 in
theorem k_f_Zone_nextSwitch_103 (O : Nat → Option va_E) (f d : Nat) (K31 : Nat → Int32 → Int32 → Int32 → xM → Option (Int32 × xM)) (hK31 : ∀ (v0 : Nat) (v2 : Int32) (v3 : Int32) (v4 : Int32) M, xZ oI O (d + 2) 177 31 [(0, .ref v0), (2, .int v2), (3, .int v3), (4, .int v4)] [] M (K31 v0 v2 v3 v4 M)) (v0 : Nat) (v2 : Int32) (v3 : Int32) (v4 : Int32) (v6 : Int32) (M : xM) : xZ oI O (d + 2) 177 103 [(0, .ref v0), (2, .int v2), (3, .int v3), (4, .int v4), (6, .int v6)] [] M (f_Zone_nextSwitch_103 O f K31 v0 v2 v3 v4 v6 M) := by
  unfold f_Zone_nextSwitch_103
  refine xZ.adv (me := xm177) hP_177 2 (pc' := 106) (lv' := [(0, .ref v0), (2, .int v2), (3, .int v3), (4, .int v4), (6, .int v6)]) (st' := [.int v2, .int v6]) rfl ?_
  refine xZ.ic_le (me := xm177) hP_177 rfl (fun h1 => ?_) (fun h1 => ?_)
  · skip
    refine xZ.adv (me := xm177) hP_177 2 (pc' := 31) (lv' := [(4, .int (v4 + (1 : Int32))), (0, .ref v0), (2, .int v2), (3, .int v3), (6, .int v6)]) (st' := []) rfl ?_
    exact xZ.sub (xsc (.tail _ (.head _)) (xsc (.tail _ (.tail _ (.head _))) (xsc (.tail _ (.tail _ (.tail _ (.head _)))) (xsc (.head _) xsn)))) (show ([4, 0, 2, 3, 6] : List Nat).Nodup from by decide) (hK31 v0 v2 v3 (v4 + (1 : Int32)) M)
  · skip
    refine xZ.adv (me := xm177) hP_177 2 (pc' := 113) (lv' := [(0, .ref v0), (2, .int v2), (3, .int v3), (4, .int v4), (6, .int v6)]) (st' := [.int (1000000000 : Int32), .int v6]) rfl ?_
    refine xZ.ic_ge (me := xm177) hP_177 rfl (fun h2 => ?_) (fun h2 => ?_)
    · skip
      refine xZ.adv (me := xm177) hP_177 2 (pc' := 31) (lv' := [(4, .int (v4 + (1 : Int32))), (0, .ref v0), (2, .int v2), (3, .int v3), (6, .int v6)]) (st' := []) rfl ?_
      exact xZ.sub (xsc (.tail _ (.head _)) (xsc (.tail _ (.tail _ (.head _))) (xsc (.tail _ (.tail _ (.tail _ (.head _)))) (xsc (.head _) xsn)))) (show ([4, 0, 2, 3, 6] : List Nat).Nodup from by decide) (hK31 v0 v2 v3 (v4 + (1 : Int32)) M)
    · skip
      refine xZ.adv (me := xm177) hP_177 2 (pc' := 119) (lv' := [(0, .ref v0), (2, .int v2), (3, .int v3), (4, .int v4), (6, .int v6)]) (st' := [.ref v0, .int v6]) rfl ?_
      refine xZ.k_gI (me := xm177) hP_177 rfl (fun x1 => ?_)
      refine xZ.adv (me := xm177) hP_177 1 (pc' := 123) (lv' := [(0, .ref v0), (2, .int v2), (3, .int v3), (4, .int v4), (6, .int v6)]) (st' := [.int (v6 - x1)]) rfl ?_
      exact xZ.reti (me := xm177) hP_177 rfl rfl
def f_Zone_nextSwitch_31 (O : Nat → Option va_E) (f : Nat) : Nat → Nat → Int32 → Int32 → Int32 → xM → Option (Int32 × xM)
  | 0, _, _, _, _, _ => none
  | n + 1, v0, v2, v3, v4, M =>
    if (2 : Int32) ≤ v4 then (
      some ((1000000000 : Int32), M)
    ) else
    xlet (((v3 + v4) - (v3 + v4) / (12 : Int32) * (12 : Int32)) + (1 : Int32)) fun x1 =>
    (gR O M v0 11 2).bind fun x2 =>
    (aI O M x2 (0 : Int32)).bind fun x3 =>
    if x1 = x3 then (
      (gR O M v0 11 2).bind fun x4 =>
      xcl (f_Zone_switchIn O f (v3 + v4) x4 M) fun x5 M1 =>
      f_Zone_nextSwitch_103 O f (f_Zone_nextSwitch_31 O f n) v0 v2 v3 v4 x5 M1
    ) else
    (gR O M v0 11 3).bind fun x6 =>
    (aI O M x6 (0 : Int32)).bind fun x7 =>
    if x1 = x7 then (
      (gR O M v0 11 3).bind fun x8 =>
      xcl (f_Zone_switchIn O f (v3 + v4) x8 M) fun x9 M2 =>
      f_Zone_nextSwitch_103 O f (f_Zone_nextSwitch_31 O f n) v0 v2 v3 v4 x9 M2
    ) else
    f_Zone_nextSwitch_103 O f (f_Zone_nextSwitch_31 O f n) v0 v2 v3 v4 (1000000000 : Int32) M
set_option maxRecDepth 20000 in
theorem k_f_Zone_nextSwitch_31 (O : Nat → Option va_E) (f d : Nat) : ∀ (n : Nat) (v0 : Nat) (v2 : Int32) (v3 : Int32) (v4 : Int32) (M : xM), xZ oI O (d + 2) 177 31 [(0, .ref v0), (2, .int v2), (3, .int v3), (4, .int v4)] [] M (f_Zone_nextSwitch_31 O f n v0 v2 v3 v4 M) := by
  intro n
  induction n with
  | zero =>
    intro v0 v2 v3 v4 M
    exact xZ.no
  | succ n ih =>
    intro v0 v2 v3 v4 M
    unfold f_Zone_nextSwitch_31
    refine xZ.adv (me := xm177) hP_177 2 (pc' := 34) (lv' := [(0, .ref v0), (2, .int v2), (3, .int v3), (4, .int v4)]) (st' := [.int (2 : Int32), .int v4]) rfl ?_
    refine xZ.ic_ge (me := xm177) hP_177 rfl (fun h1 => ?_) (fun h1 => ?_)
    · skip
      refine xZ.adv (me := xm177) hP_177 1 (pc' := 132) (lv' := [(0, .ref v0), (2, .int v2), (3, .int v3), (4, .int v4)]) (st' := [.int (1000000000 : Int32)]) rfl ?_
      exact xZ.reti (me := xm177) hP_177 rfl rfl
    · skip
      refine xZ.adv (me := xm177) hP_177 8 (pc' := 48) (lv' := [(5, .int (((v3 + v4) - (v3 + v4) / (12 : Int32) * (12 : Int32)) + (1 : Int32))), (0, .ref v0), (2, .int v2), (3, .int v3), (4, .int v4)]) (st' := []) rfl ?_
      refine xZ.letI (v := (((v3 + v4) - (v3 + v4) / (12 : Int32) * (12 : Int32)) + (1 : Int32))) (lvf := fun x1 => [(5, .int x1), (0, .ref v0), (2, .int v2), (3, .int v3), (4, .int v4)]) (stf := fun x1 => []) ?_
      intro x1
      refine xZ.adv (me := xm177) hP_177 4 (pc' := 55) (lv' := [(6, .int (1000000000 : Int32)), (5, .int x1), (0, .ref v0), (2, .int v2), (3, .int v3), (4, .int v4)]) (st' := [.ref v0, .int x1]) rfl ?_
      refine xZ.k_gR (me := xm177) hP_177 rfl (fun x2 => ?_)
      refine xZ.adv (me := xm177) hP_177 1 (pc' := 59) (lv' := [(6, .int (1000000000 : Int32)), (5, .int x1), (0, .ref v0), (2, .int v2), (3, .int v3), (4, .int v4)]) (st' := [.int (0 : Int32), .ref x2, .int x1]) rfl ?_
      refine xZ.k_aI (me := xm177) hP_177 rfl (fun x3 => ?_)
      refine xZ.ic_ne (me := xm177) hP_177 rfl (fun h2 => ?_) (fun h2 => ?_)
      · skip
        refine xZ.adv (me := xm177) hP_177 4 (pc' := 68) (lv' := [(6, .int (1000000000 : Int32)), (5, .int x1), (0, .ref v0), (2, .int v2), (3, .int v3), (4, .int v4)]) (st' := [.ref v0, .int (v3 + v4)]) rfl ?_
        refine xZ.k_gR (me := xm177) hP_177 rfl (fun x4 => ?_)
        refine xZ.calls (κ := oI) (av := [.int (v3 + v4), .ref x4]) (rest := []) (st' := fun x5 => [.int x5]) (me := xm177) hP_177 rfl rfl rfl (Nat.le_of_ble_eq_true rfl) (by decide) hP_107 (Nat.le_of_ble_eq_true rfl) (fun _ => rfl) (k_f_Zone_switchIn O f (d + 0) (v3 + v4) x4 M) (fun x5 M1 => ?_)
        refine xZ.adv (me := xm177) hP_177 2 (pc' := 103) (lv' := [(6, .int x5), (5, .int x1), (0, .ref v0), (2, .int v2), (3, .int v3), (4, .int v4)]) (st' := []) rfl ?_
        exact xZ.sub (xsc (.tail _ (.tail _ (.head _))) (xsc (.tail _ (.tail _ (.tail _ (.head _)))) (xsc (.tail _ (.tail _ (.tail _ (.tail _ (.head _))))) (xsc (.tail _ (.tail _ (.tail _ (.tail _ (.tail _ (.head _)))))) (xsc (.head _) xsn))))) (show ([6, 5, 0, 2, 3, 4] : List Nat).Nodup from by decide) (k_f_Zone_nextSwitch_103 O f d (f_Zone_nextSwitch_31 O f n) ih v0 v2 v3 v4 x5 M1)
      · skip
        refine xZ.adv (me := xm177) hP_177 2 (pc' := 82) (lv' := [(6, .int (1000000000 : Int32)), (5, .int x1), (0, .ref v0), (2, .int v2), (3, .int v3), (4, .int v4)]) (st' := [.ref v0, .int x1]) rfl ?_
        refine xZ.k_gR (me := xm177) hP_177 rfl (fun x6 => ?_)
        refine xZ.adv (me := xm177) hP_177 1 (pc' := 86) (lv' := [(6, .int (1000000000 : Int32)), (5, .int x1), (0, .ref v0), (2, .int v2), (3, .int v3), (4, .int v4)]) (st' := [.int (0 : Int32), .ref x6, .int x1]) rfl ?_
        refine xZ.k_aI (me := xm177) hP_177 rfl (fun x7 => ?_)
        refine xZ.ic_ne (me := xm177) hP_177 rfl (fun h3 => ?_) (fun h3 => ?_)
        · skip
          refine xZ.adv (me := xm177) hP_177 4 (pc' := 95) (lv' := [(6, .int (1000000000 : Int32)), (5, .int x1), (0, .ref v0), (2, .int v2), (3, .int v3), (4, .int v4)]) (st' := [.ref v0, .int (v3 + v4)]) rfl ?_
          refine xZ.k_gR (me := xm177) hP_177 rfl (fun x8 => ?_)
          refine xZ.calls (κ := oI) (av := [.int (v3 + v4), .ref x8]) (rest := []) (st' := fun x9 => [.int x9]) (me := xm177) hP_177 rfl rfl rfl (Nat.le_of_ble_eq_true rfl) (by decide) hP_107 (Nat.le_of_ble_eq_true rfl) (fun _ => rfl) (k_f_Zone_switchIn O f (d + 0) (v3 + v4) x8 M) (fun x9 M2 => ?_)
          refine xZ.adv (me := xm177) hP_177 1 (pc' := 103) (lv' := [(6, .int x9), (5, .int x1), (0, .ref v0), (2, .int v2), (3, .int v3), (4, .int v4)]) (st' := []) rfl ?_
          exact xZ.sub (xsc (.tail _ (.tail _ (.head _))) (xsc (.tail _ (.tail _ (.tail _ (.head _)))) (xsc (.tail _ (.tail _ (.tail _ (.tail _ (.head _))))) (xsc (.tail _ (.tail _ (.tail _ (.tail _ (.tail _ (.head _)))))) (xsc (.head _) xsn))))) (show ([6, 5, 0, 2, 3, 4] : List Nat).Nodup from by decide) (k_f_Zone_nextSwitch_103 O f d (f_Zone_nextSwitch_31 O f n) ih v0 v2 v3 v4 x9 M2)
        · skip
          exact xZ.sub (xsc (.tail _ (.tail _ (.head _))) (xsc (.tail _ (.tail _ (.tail _ (.head _)))) (xsc (.tail _ (.tail _ (.tail _ (.tail _ (.head _))))) (xsc (.tail _ (.tail _ (.tail _ (.tail _ (.tail _ (.head _)))))) (xsc (.head _) xsn))))) (show ([6, 5, 0, 2, 3, 4] : List Nat).Nodup from by decide) (k_f_Zone_nextSwitch_103 O f d (f_Zone_nextSwitch_31 O f n) ih v0 v2 v3 v4 (1000000000 : Int32) M)
def f_Zone_nextSwitch (O : Nat → Option va_E) (f : Nat) (v0 : Nat) (v1 : Int32) (M : xM) : Option (Int32 × xM) :=
  (gI O M v0 11 1).bind fun x1 =>
  if x1 = 0 then (
    some ((1000000000 : Int32), M)
  ) else
  (gI O M v0 11 0).bind fun x2 =>
  xcl (f_Math_floorDiv O f (v1 + x2) (1440 : Int32) M) fun x3 M1 =>
  xcl (f_Days_monthOf O f x3 M1) fun x4 M2 =>
  f_Zone_nextSwitch_31 O f f v0 (v1 + x2) x4 (0 : Int32) M2
set_option maxRecDepth 20000 in
theorem k_f_Zone_nextSwitch (O : Nat → Option va_E) (f d : Nat) (v0 : Nat) (v1 : Int32) (M : xM) : xZ oI O (d + 2) 177 0 [(0, .ref v0), (1, .int v1)] [] M (f_Zone_nextSwitch O f v0 v1 M) := by
  unfold f_Zone_nextSwitch
  refine xZ.adv (me := xm177) hP_177 1 (pc' := 1) (lv' := [(0, .ref v0), (1, .int v1)]) (st' := [.ref v0]) rfl ?_
  refine xZ.k_gI (me := xm177) hP_177 rfl (fun x1 => ?_)
  refine xZ.if_ne (me := xm177) hP_177 rfl (fun h1 => ?_) (fun h1 => ?_)
  · skip
    refine xZ.adv (me := xm177) hP_177 1 (pc' := 9) (lv' := [(0, .ref v0), (1, .int v1)]) (st' := [.int (1000000000 : Int32)]) rfl ?_
    exact xZ.reti (me := xm177) hP_177 rfl rfl
  · skip
    refine xZ.adv (me := xm177) hP_177 2 (pc' := 12) (lv' := [(0, .ref v0), (1, .int v1)]) (st' := [.ref v0, .int v1]) rfl ?_
    refine xZ.k_gI (me := xm177) hP_177 rfl (fun x2 => ?_)
    refine xZ.adv (me := xm177) hP_177 4 (pc' := 21) (lv' := [(2, .int (v1 + x2)), (0, .ref v0), (1, .int v1)]) (st' := [.int (1440 : Int32), .int (v1 + x2)]) rfl ?_
    refine xZ.calls (κ := oI) (av := [.int (v1 + x2), .int (1440 : Int32)]) (rest := []) (st' := fun x3 => [.int x3]) (me := xm177) hP_177 rfl rfl rfl (Nat.le_of_ble_eq_true rfl) (by decide) hP_251 (Nat.le_of_ble_eq_true rfl) (fun _ => rfl) (k_f_Math_floorDiv O f (d + 1) (v1 + x2) (1440 : Int32) M) (fun x3 M1 => ?_)
    refine xZ.calls (κ := oI) (av := [.int x3]) (rest := []) (st' := fun x4 => [.int x4]) (me := xm177) hP_177 rfl rfl rfl (Nat.le_of_ble_eq_true rfl) (by decide) hP_52 (Nat.le_of_ble_eq_true rfl) (fun _ => rfl) (k_f_Days_monthOf O f (d + 1) x3 M1) (fun x4 M2 => ?_)
    refine xZ.adv (me := xm177) hP_177 3 (pc' := 31) (lv' := [(4, .int (0 : Int32)), (3, .int x4), (2, .int (v1 + x2)), (0, .ref v0), (1, .int v1)]) (st' := []) rfl ?_
    exact xZ.sub (xsc (.tail _ (.tail _ (.tail _ (.head _)))) (xsc (.tail _ (.tail _ (.head _))) (xsc (.tail _ (.head _)) (xsc (.head _) xsn)))) (show ([4, 3, 2, 0, 1] : List Nat).Nodup from by decide) (k_f_Zone_nextSwitch_31 O f d f v0 (v1 + x2) x4 (0 : Int32) M2)
def f_Person_workFrom_93 (O : Nat → Option va_E) (f : Nat) (K6 : Nat → Nat → Int32 → Int32 → Int32 → xM → Option (Int32 × xM)) (v0 : Nat) (v1 : Nat) (v3 : Int32) (v4 : Int32) (v5 : Int32) (v7 : Int32) (s0 : Int32) (M : xM) : Option (Int32 × xM) :=
  (isO O M v1 11).bind fun _ =>
  xcl (f_Zone_nextSwitch O f v1 v4 M) fun x1 M1 =>
  xcl (f_Math_min O f ((v4 + s0) - v7) x1 M1) fun x2 M2 =>
  K6 v0 v1 v3 x2 (v5 + (1 : Int32)) M2
set_option maxRecDepth 20000 in
theorem k_f_Person_workFrom_93 (O : Nat → Option va_E) (f d : Nat) (K6 : Nat → Nat → Int32 → Int32 → Int32 → xM → Option (Int32 × xM)) (hK6 : ∀ (v0 : Nat) (v1 : Nat) (v3 : Int32) (v4 : Int32) (v5 : Int32) M, xZ oI O (d + 4) 175 6 [(0, .ref v0), (1, .ref v1), (3, .int v3), (4, .int v4), (5, .int v5)] [] M (K6 v0 v1 v3 v4 v5 M)) (v0 : Nat) (v1 : Nat) (v3 : Int32) (v4 : Int32) (v5 : Int32) (v7 : Int32) (s0 : Int32) (M : xM) : xZ oI O (d + 4) 175 93 [(0, .ref v0), (1, .ref v1), (3, .int v3), (4, .int v4), (5, .int v5), (7, .int v7)] [.int s0] M (f_Person_workFrom_93 O f K6 v0 v1 v3 v4 v5 v7 s0 M) := by
  unfold f_Person_workFrom_93
  refine xZ.adv (me := xm175) hP_175 8 (pc' := 106) (lv' := [(8, .int s0), (0, .ref v0), (1, .ref v1), (3, .int v3), (4, .int v4), (5, .int v5), (7, .int v7)]) (st' := [.int v4, .ref v1, .int ((v4 + s0) - v7)]) rfl ?_
  refine xZ.callv (κ := oI) (av := [.int v4]) (rest := [.int ((v4 + s0) - v7)]) (st' := fun x1 => [.int x1, .int ((v4 + s0) - v7)]) (k0 := v1) (me := xm175) hP_175 rfl (Or.inl rfl) ⟨rfl, by decide⟩ rfl rfl (Nat.le_of_ble_eq_true rfl) (by decide) hP_177 (Nat.le_of_ble_eq_true rfl) (fun _ => rfl) (k_f_Zone_nextSwitch O f (d + 1) v1 v4 M) (fun x1 M1 => ?_)
  refine xZ.calls (κ := oI) (av := [.int ((v4 + s0) - v7), .int x1]) (rest := []) (st' := fun x2 => [.int x2]) (me := xm175) hP_175 rfl rfl rfl (Nat.le_of_ble_eq_true rfl) (by decide) hP_248 (Nat.le_of_ble_eq_true rfl) (fun _ => rfl) (k_f_Math_min O f (d + 3) ((v4 + s0) - v7) x1 M1) (fun x2 M2 => ?_)
  refine xZ.adv (me := xm175) hP_175 3 (pc' := 6) (lv' := [(5, .int (v5 + (1 : Int32))), (4, .int x2), (8, .int s0), (0, .ref v0), (1, .ref v1), (3, .int v3), (7, .int v7)]) (st' := []) rfl ?_
  exact xZ.sub (xsc (.tail _ (.tail _ (.tail _ (.head _)))) (xsc (.tail _ (.tail _ (.tail _ (.tail _ (.head _))))) (xsc (.tail _ (.tail _ (.tail _ (.tail _ (.tail _ (.head _)))))) (xsc (.tail _ (.head _)) (xsc (.head _) xsn))))) (show ([5, 4, 8, 0, 1, 3, 7] : List Nat).Nodup from by decide) (hK6 v0 v1 v3 x2 (v5 + (1 : Int32)) M2)
def f_Person_workFrom_74 (O : Nat → Option va_E) (f : Nat) (K6 : Nat → Nat → Int32 → Int32 → Int32 → xM → Option (Int32 × xM)) (v0 : Nat) (v1 : Nat) (v3 : Int32) (v4 : Int32) (v5 : Int32) (v7 : Int32) (M : xM) : Option (Int32 × xM) :=
  (gI O M v0 6 2).bind fun x1 =>
  if x1 ≤ v7 then (
    f_Person_workFrom_93 O f K6 v0 v1 v3 v4 v5 v7 (1440 : Int32) M
  ) else
  (gI O M v0 6 2).bind fun x2 =>
  f_Person_workFrom_93 O f K6 v0 v1 v3 v4 v5 v7 x2 M
set_option maxRecDepth 20000 in
theorem k_f_Person_workFrom_74 (O : Nat → Option va_E) (f d : Nat) (K6 : Nat → Nat → Int32 → Int32 → Int32 → xM → Option (Int32 × xM)) (hK6 : ∀ (v0 : Nat) (v1 : Nat) (v3 : Int32) (v4 : Int32) (v5 : Int32) M, xZ oI O (d + 4) 175 6 [(0, .ref v0), (1, .ref v1), (3, .int v3), (4, .int v4), (5, .int v5)] [] M (K6 v0 v1 v3 v4 v5 M)) (v0 : Nat) (v1 : Nat) (v3 : Int32) (v4 : Int32) (v5 : Int32) (v7 : Int32) (M : xM) : xZ oI O (d + 4) 175 74 [(0, .ref v0), (1, .ref v1), (3, .int v3), (4, .int v4), (5, .int v5), (7, .int v7)] [] M (f_Person_workFrom_74 O f K6 v0 v1 v3 v4 v5 v7 M) := by
  unfold f_Person_workFrom_74
  refine xZ.adv (me := xm175) hP_175 2 (pc' := 77) (lv' := [(0, .ref v0), (1, .ref v1), (3, .int v3), (4, .int v4), (5, .int v5), (7, .int v7)]) (st' := [.ref v0, .int v7]) rfl ?_
  refine xZ.k_gI (me := xm175) hP_175 rfl (fun x1 => ?_)
  refine xZ.ic_ge (me := xm175) hP_175 rfl (fun h1 => ?_) (fun h1 => ?_)
  · skip
    refine xZ.adv (me := xm175) hP_175 1 (pc' := 93) (lv' := [(0, .ref v0), (1, .ref v1), (3, .int v3), (4, .int v4), (5, .int v5), (7, .int v7)]) (st' := [.int (1440 : Int32)]) rfl ?_
    exact (k_f_Person_workFrom_93 O f d K6 hK6 v0 v1 v3 v4 v5 v7 (1440 : Int32) M)
  · skip
    refine xZ.adv (me := xm175) hP_175 1 (pc' := 84) (lv' := [(0, .ref v0), (1, .ref v1), (3, .int v3), (4, .int v4), (5, .int v5), (7, .int v7)]) (st' := [.ref v0]) rfl ?_
    refine xZ.k_gI (me := xm175) hP_175 rfl (fun x2 => ?_)
    refine xZ.adv (me := xm175) hP_175 1 (pc' := 93) (lv' := [(0, .ref v0), (1, .ref v1), (3, .int v3), (4, .int v4), (5, .int v5), (7, .int v7)]) (st' := [.int x2]) rfl ?_
    exact (k_f_Person_workFrom_93 O f d K6 hK6 v0 v1 v3 v4 v5 v7 x2 M)
def f_Person_workFrom_6 (O : Nat → Option va_E) (f : Nat) : Nat → Nat → Nat → Int32 → Int32 → Int32 → xM → Option (Int32 × xM)
  | 0, _, _, _, _, _, _ => none
  | n + 1, v0, v1, v3, v4, v5, M =>
    if (20160 : Int32) < v5 then (
      some (v3, M)
    ) else
    if v3 ≤ v4 then (
      some (v3, M)
    ) else
    (isO O M v1 11).bind fun _ =>
    xcl (f_Zone_localOf O f v1 v4 M) fun x1 M1 =>
    xcl (f_Math_floorMod O f x1 (1440 : Int32) M1) fun x2 M2 =>
    (gI O M2 v0 6 2).bind fun x3 =>
    if x2 < x3 then (
      f_Person_workFrom_74 O f (f_Person_workFrom_6 O f n) v0 v1 v3 v4 v5 x2 M2
    ) else
    (gI O M2 v0 6 3).bind fun x4 =>
    if x4 ≤ x2 then (
      f_Person_workFrom_74 O f (f_Person_workFrom_6 O f n) v0 v1 v3 v4 v5 x2 M2
    ) else
    xcl (f_Math_floorDiv O f x1 (1440 : Int32) M2) fun x5 M3 =>
    (isO O M3 v0 6).bind fun _ =>
    xcl (f_Person_isWorkDay O f v0 x5 M3) fun x6 M4 =>
    if x6 = 0 then (
      f_Person_workFrom_74 O f (f_Person_workFrom_6 O f n) v0 v1 v3 v4 v5 x2 M4
    ) else
    some (v4, M4)
set_option maxRecDepth 20000 in
theorem k_f_Person_workFrom_6 (O : Nat → Option va_E) (f d : Nat) : ∀ (n : Nat) (v0 : Nat) (v1 : Nat) (v3 : Int32) (v4 : Int32) (v5 : Int32) (M : xM), xZ oI O (d + 4) 175 6 [(0, .ref v0), (1, .ref v1), (3, .int v3), (4, .int v4), (5, .int v5)] [] M (f_Person_workFrom_6 O f n v0 v1 v3 v4 v5 M) := by
  intro n
  induction n with
  | zero =>
    intro v0 v1 v3 v4 v5 M
    exact xZ.no
  | succ n ih =>
    intro v0 v1 v3 v4 v5 M
    unfold f_Person_workFrom_6
    refine xZ.adv (me := xm175) hP_175 2 (pc' := 11) (lv' := [(0, .ref v0), (1, .ref v1), (3, .int v3), (4, .int v4), (5, .int v5)]) (st' := [.int (20160 : Int32), .int v5]) rfl ?_
    refine xZ.ic_gt (me := xm175) hP_175 rfl (fun h1 => ?_) (fun h1 => ?_)
    · skip
      refine xZ.adv (me := xm175) hP_175 1 (pc' := 121) (lv' := [(0, .ref v0), (1, .ref v1), (3, .int v3), (4, .int v4), (5, .int v5)]) (st' := [.int v3]) rfl ?_
      exact xZ.reti (me := xm175) hP_175 rfl rfl
    · skip
      refine xZ.adv (me := xm175) hP_175 2 (pc' := 17) (lv' := [(0, .ref v0), (1, .ref v1), (3, .int v3), (4, .int v4), (5, .int v5)]) (st' := [.int v3, .int v4]) rfl ?_
      refine xZ.ic_ge (me := xm175) hP_175 rfl (fun h2 => ?_) (fun h2 => ?_)
      · skip
        refine xZ.adv (me := xm175) hP_175 1 (pc' := 121) (lv' := [(0, .ref v0), (1, .ref v1), (3, .int v3), (4, .int v4), (5, .int v5)]) (st' := [.int v3]) rfl ?_
        exact xZ.reti (me := xm175) hP_175 rfl rfl
      · skip
        refine xZ.adv (me := xm175) hP_175 2 (pc' := 23) (lv' := [(0, .ref v0), (1, .ref v1), (3, .int v3), (4, .int v4), (5, .int v5)]) (st' := [.int v4, .ref v1]) rfl ?_
        refine xZ.callv (κ := oI) (av := [.int v4]) (rest := []) (st' := fun x1 => [.int x1]) (k0 := v1) (me := xm175) hP_175 rfl (Or.inl rfl) ⟨rfl, by decide⟩ rfl rfl (Nat.le_of_ble_eq_true rfl) (by decide) hP_135 (Nat.le_of_ble_eq_true rfl) (fun _ => rfl) (k_f_Zone_localOf O f (d + 0) v1 v4 M) (fun x1 M1 => ?_)
        refine xZ.adv (me := xm175) hP_175 3 (pc' := 33) (lv' := [(6, .int x1), (0, .ref v0), (1, .ref v1), (3, .int v3), (4, .int v4), (5, .int v5)]) (st' := [.int (1440 : Int32), .int x1]) rfl ?_
        refine xZ.calls (κ := oI) (av := [.int x1, .int (1440 : Int32)]) (rest := []) (st' := fun x2 => [.int x2]) (me := xm175) hP_175 rfl rfl rfl (Nat.le_of_ble_eq_true rfl) (by decide) hP_250 (Nat.le_of_ble_eq_true rfl) (fun _ => rfl) (k_f_Math_floorMod O f (d + 3) x1 (1440 : Int32) M1) (fun x2 M2 => ?_)
        refine xZ.adv (me := xm175) hP_175 3 (pc' := 41) (lv' := [(7, .int x2), (6, .int x1), (0, .ref v0), (1, .ref v1), (3, .int v3), (4, .int v4), (5, .int v5)]) (st' := [.ref v0, .int x2]) rfl ?_
        refine xZ.k_gI (me := xm175) hP_175 rfl (fun x3 => ?_)
        refine xZ.ic_lt (me := xm175) hP_175 rfl (fun h3 => ?_) (fun h3 => ?_)
        · skip
          exact xZ.sub (xsc (.tail _ (.tail _ (.head _))) (xsc (.tail _ (.tail _ (.tail _ (.head _)))) (xsc (.tail _ (.tail _ (.tail _ (.tail _ (.head _))))) (xsc (.tail _ (.tail _ (.tail _ (.tail _ (.tail _ (.head _)))))) (xsc (.tail _ (.tail _ (.tail _ (.tail _ (.tail _ (.tail _ (.head _))))))) (xsc (.head _) xsn)))))) (show ([7, 6, 0, 1, 3, 4, 5] : List Nat).Nodup from by decide) (k_f_Person_workFrom_74 O f d (f_Person_workFrom_6 O f n) ih v0 v1 v3 v4 v5 x2 M2)
        · skip
          refine xZ.adv (me := xm175) hP_175 2 (pc' := 50) (lv' := [(7, .int x2), (6, .int x1), (0, .ref v0), (1, .ref v1), (3, .int v3), (4, .int v4), (5, .int v5)]) (st' := [.ref v0, .int x2]) rfl ?_
          refine xZ.k_gI (me := xm175) hP_175 rfl (fun x4 => ?_)
          refine xZ.ic_ge (me := xm175) hP_175 rfl (fun h4 => ?_) (fun h4 => ?_)
          · skip
            exact xZ.sub (xsc (.tail _ (.tail _ (.head _))) (xsc (.tail _ (.tail _ (.tail _ (.head _)))) (xsc (.tail _ (.tail _ (.tail _ (.tail _ (.head _))))) (xsc (.tail _ (.tail _ (.tail _ (.tail _ (.tail _ (.head _)))))) (xsc (.tail _ (.tail _ (.tail _ (.tail _ (.tail _ (.tail _ (.head _))))))) (xsc (.head _) xsn)))))) (show ([7, 6, 0, 1, 3, 4, 5] : List Nat).Nodup from by decide) (k_f_Person_workFrom_74 O f d (f_Person_workFrom_6 O f n) ih v0 v1 v3 v4 v5 x2 M2)
          · skip
            refine xZ.adv (me := xm175) hP_175 3 (pc' := 62) (lv' := [(7, .int x2), (6, .int x1), (0, .ref v0), (1, .ref v1), (3, .int v3), (4, .int v4), (5, .int v5)]) (st' := [.int (1440 : Int32), .int x1, .ref v0]) rfl ?_
            refine xZ.calls (κ := oI) (av := [.int x1, .int (1440 : Int32)]) (rest := [.ref v0]) (st' := fun x5 => [.int x5, .ref v0]) (me := xm175) hP_175 rfl rfl rfl (Nat.le_of_ble_eq_true rfl) (by decide) hP_251 (Nat.le_of_ble_eq_true rfl) (fun _ => rfl) (k_f_Math_floorDiv O f (d + 3) x1 (1440 : Int32) M2) (fun x5 M3 => ?_)
            refine xZ.callv (κ := oI) (av := [.int x5]) (rest := []) (st' := fun x6 => [.int x6]) (k0 := v0) (me := xm175) hP_175 rfl (Or.inl rfl) ⟨rfl, by decide⟩ rfl rfl (Nat.le_of_ble_eq_true rfl) (by decide) hP_176 (Nat.le_of_ble_eq_true rfl) (fun _ => rfl) (k_f_Person_isWorkDay O f (d + 2) v0 x5 M3) (fun x6 M4 => ?_)
            refine xZ.if_eq (me := xm175) hP_175 rfl (fun h5 => ?_) (fun h5 => ?_)
            · skip
              exact xZ.sub (xsc (.tail _ (.tail _ (.head _))) (xsc (.tail _ (.tail _ (.tail _ (.head _)))) (xsc (.tail _ (.tail _ (.tail _ (.tail _ (.head _))))) (xsc (.tail _ (.tail _ (.tail _ (.tail _ (.tail _ (.head _)))))) (xsc (.tail _ (.tail _ (.tail _ (.tail _ (.tail _ (.tail _ (.head _))))))) (xsc (.head _) xsn)))))) (show ([7, 6, 0, 1, 3, 4, 5] : List Nat).Nodup from by decide) (k_f_Person_workFrom_74 O f d (f_Person_workFrom_6 O f n) ih v0 v1 v3 v4 v5 x2 M4)
            · skip
              refine xZ.adv (me := xm175) hP_175 1 (pc' := 73) (lv' := [(7, .int x2), (6, .int x1), (0, .ref v0), (1, .ref v1), (3, .int v3), (4, .int v4), (5, .int v5)]) (st' := [.int v4]) rfl ?_
              exact xZ.reti (me := xm175) hP_175 rfl rfl
def f_Person_workFrom (O : Nat → Option va_E) (f : Nat) (v0 : Nat) (v1 : Nat) (v2 : Int32) (v3 : Int32) (M : xM) : Option (Int32 × xM) :=
  f_Person_workFrom_6 O f f v0 v1 v3 v2 (0 : Int32) M
set_option maxRecDepth 20000 in
theorem k_f_Person_workFrom (O : Nat → Option va_E) (f d : Nat) (v0 : Nat) (v1 : Nat) (v2 : Int32) (v3 : Int32) (M : xM) : xZ oI O (d + 4) 175 0 [(0, .ref v0), (1, .ref v1), (2, .int v2), (3, .int v3)] [] M (f_Person_workFrom O f v0 v1 v2 v3 M) := by
  unfold f_Person_workFrom
  refine xZ.adv (me := xm175) hP_175 4 (pc' := 6) (lv' := [(5, .int (0 : Int32)), (4, .int v2), (0, .ref v0), (1, .ref v1), (2, .int v2), (3, .int v3)]) (st' := []) rfl ?_
  exact xZ.sub (xsc (.tail _ (.tail _ (.head _))) (xsc (.tail _ (.tail _ (.tail _ (.head _)))) (xsc (.tail _ (.tail _ (.tail _ (.tail _ (.tail _ (.head _)))))) (xsc (.tail _ (.head _)) (xsc (.head _) xsn))))) (show ([5, 4, 0, 1, 2, 3] : List Nat).Nodup from by decide) (k_f_Person_workFrom_6 O f d f v0 v1 v3 v2 (0 : Int32) M)
def f_Dates_offFrom_4 (O : Nat → Option va_E) (f : Nat) : Nat → Nat → Int32 → Int32 → xM → Option (Int32 × xM)
  | 0, _, _, _, _ => none
  | n + 1, v0, v2, v3, M =>
    (gI O M v0 2 0).bind fun x1 =>
    if x1 ≤ v3 then (
      some (v2, M)
    ) else
    (isO O M v0 2).bind fun _ =>
    xcl (f_Dates_beginAt O f v0 v3 M) fun x2 M1 =>
    if v2 < x2 then (
      some (v2, M1)
    ) else
    (isO O M1 v0 2).bind fun _ =>
    xcl (f_Dates_endAt O f v0 v3 M1) fun x3 M2 =>
    xcl (f_Math_max O f v2 x3 M2) fun x4 M3 =>
    f_Dates_offFrom_4 O f n v0 x4 (v3 + (1 : Int32)) M3
set_option maxRecDepth 20000 in
theorem k_f_Dates_offFrom_4 (O : Nat → Option va_E) (f d : Nat) : ∀ (n : Nat) (v0 : Nat) (v2 : Int32) (v3 : Int32) (M : xM), xZ oI O (d + 3) 178 4 [(0, .ref v0), (2, .int v2), (3, .int v3)] [] M (f_Dates_offFrom_4 O f n v0 v2 v3 M) := by
  intro n
  induction n with
  | zero =>
    intro v0 v2 v3 M
    exact xZ.no
  | succ n ih =>
    intro v0 v2 v3 M
    unfold f_Dates_offFrom_4
    refine xZ.adv (me := xm178) hP_178 2 (pc' := 6) (lv' := [(0, .ref v0), (2, .int v2), (3, .int v3)]) (st' := [.ref v0, .int v3]) rfl ?_
    refine xZ.k_gI (me := xm178) hP_178 rfl (fun x1 => ?_)
    refine xZ.ic_ge (me := xm178) hP_178 rfl (fun h1 => ?_) (fun h1 => ?_)
    · skip
      refine xZ.adv (me := xm178) hP_178 1 (pc' := 38) (lv' := [(0, .ref v0), (2, .int v2), (3, .int v3)]) (st' := [.int v2]) rfl ?_
      exact xZ.reti (me := xm178) hP_178 rfl rfl
    · skip
      refine xZ.adv (me := xm178) hP_178 2 (pc' := 14) (lv' := [(0, .ref v0), (2, .int v2), (3, .int v3)]) (st' := [.int v3, .ref v0]) rfl ?_
      refine xZ.callv (κ := oI) (av := [.int v3]) (rest := []) (st' := fun x2 => [.int x2]) (k0 := v0) (me := xm178) hP_178 rfl (Or.inl rfl) ⟨rfl, by decide⟩ rfl rfl (Nat.le_of_ble_eq_true rfl) (by decide) hP_171 (Nat.le_of_ble_eq_true rfl) (fun _ => rfl) (k_f_Dates_beginAt O f (d + 1) v0 v3 M) (fun x2 M1 => ?_)
      refine xZ.adv (me := xm178) hP_178 1 (pc' := 18) (lv' := [(0, .ref v0), (2, .int v2), (3, .int v3)]) (st' := [.int v2, .int x2]) rfl ?_
      refine xZ.ic_gt (me := xm178) hP_178 rfl (fun h2 => ?_) (fun h2 => ?_)
      · skip
        refine xZ.adv (me := xm178) hP_178 1 (pc' := 38) (lv' := [(0, .ref v0), (2, .int v2), (3, .int v3)]) (st' := [.int v2]) rfl ?_
        exact xZ.reti (me := xm178) hP_178 rfl rfl
      · skip
        refine xZ.adv (me := xm178) hP_178 3 (pc' := 24) (lv' := [(0, .ref v0), (2, .int v2), (3, .int v3)]) (st' := [.int v3, .ref v0, .int v2]) rfl ?_
        refine xZ.callv (κ := oI) (av := [.int v3]) (rest := [.int v2]) (st' := fun x3 => [.int x3, .int v2]) (k0 := v0) (me := xm178) hP_178 rfl (Or.inl rfl) ⟨rfl, by decide⟩ rfl rfl (Nat.le_of_ble_eq_true rfl) (by decide) hP_170 (Nat.le_of_ble_eq_true rfl) (fun _ => rfl) (k_f_Dates_endAt O f (d + 0) v0 v3 M1) (fun x3 M2 => ?_)
        refine xZ.calls (κ := oI) (av := [.int v2, .int x3]) (rest := []) (st' := fun x4 => [.int x4]) (me := xm178) hP_178 rfl rfl rfl (Nat.le_of_ble_eq_true rfl) (by decide) hP_247 (Nat.le_of_ble_eq_true rfl) (fun _ => rfl) (k_f_Math_max O f (d + 2) v2 x3 M2) (fun x4 M3 => ?_)
        refine xZ.adv (me := xm178) hP_178 3 (pc' := 4) (lv' := [(3, .int (v3 + (1 : Int32))), (2, .int x4), (0, .ref v0)]) (st' := []) rfl ?_
        exact xZ.sub (xsc (.tail _ (.tail _ (.head _))) (xsc (.tail _ (.head _)) (xsc (.head _) xsn))) (show ([3, 2, 0] : List Nat).Nodup from by decide) (ih v0 x4 (v3 + (1 : Int32)) M3)
def f_Dates_offFrom (O : Nat → Option va_E) (f : Nat) (v0 : Nat) (v1 : Int32) (M : xM) : Option (Int32 × xM) :=
  f_Dates_offFrom_4 O f f v0 v1 (0 : Int32) M
set_option maxRecDepth 20000 in
theorem k_f_Dates_offFrom (O : Nat → Option va_E) (f d : Nat) (v0 : Nat) (v1 : Int32) (M : xM) : xZ oI O (d + 3) 178 0 [(0, .ref v0), (1, .int v1)] [] M (f_Dates_offFrom O f v0 v1 M) := by
  unfold f_Dates_offFrom
  refine xZ.adv (me := xm178) hP_178 4 (pc' := 4) (lv' := [(3, .int (0 : Int32)), (2, .int v1), (0, .ref v0), (1, .int v1)]) (st' := []) rfl ?_
  exact xZ.sub (xsc (.tail _ (.tail _ (.head _))) (xsc (.tail _ (.head _)) (xsc (.head _) xsn))) (show ([3, 2, 0, 1] : List Nat).Nodup from by decide) (k_f_Dates_offFrom_4 O f d f v0 v1 (0 : Int32) M)
def f_Person_idleFrom_6 (O : Nat → Option va_E) (f : Nat) : Nat → Nat → Nat → Int32 → Int32 → Int32 → xM → Option (Int32 × xM)
  | 0, _, _, _, _, _, _ => none
  | n + 1, v0, v1, v3, v4, v5, M =>
    if (20160 : Int32) < v5 then (
      some (v3, M)
    ) else
    if v3 ≤ v4 then (
      some (v3, M)
    ) else
    (isO O M v1 11).bind fun _ =>
    xcl (f_Zone_localOf O f v1 v4 M) fun x1 M1 =>
    xcl (f_Math_floorMod O f x1 (1440 : Int32) M1) fun x2 M2 =>
    (gI O M2 v0 6 2).bind fun x3 =>
    if x2 < x3 then (
      some (v4, M2)
    ) else
    (gI O M2 v0 6 3).bind fun x4 =>
    if x4 ≤ x2 then (
      some (v4, M2)
    ) else
    xcl (f_Math_floorDiv O f x1 (1440 : Int32) M2) fun x5 M3 =>
    (isO O M3 v0 6).bind fun _ =>
    xcl (f_Person_isWorkDay O f v0 x5 M3) fun x6 M4 =>
    if x6 = 0 then (
      some (v4, M4)
    ) else
    (gI O M4 v0 6 3).bind fun x7 =>
    (isO O M4 v1 11).bind fun _ =>
    xcl (f_Zone_nextSwitch O f v1 v4 M4) fun x8 M5 =>
    xcl (f_Math_min O f ((v4 + x7) - x2) x8 M5) fun x9 M6 =>
    f_Person_idleFrom_6 O f n v0 v1 v3 x9 (v5 + (1 : Int32)) M6
set_option maxRecDepth 20000 in
theorem k_f_Person_idleFrom_6 (O : Nat → Option va_E) (f d : Nat) : ∀ (n : Nat) (v0 : Nat) (v1 : Nat) (v3 : Int32) (v4 : Int32) (v5 : Int32) (M : xM), xZ oI O (d + 4) 179 6 [(0, .ref v0), (1, .ref v1), (3, .int v3), (4, .int v4), (5, .int v5)] [] M (f_Person_idleFrom_6 O f n v0 v1 v3 v4 v5 M) := by
  intro n
  induction n with
  | zero =>
    intro v0 v1 v3 v4 v5 M
    exact xZ.no
  | succ n ih =>
    intro v0 v1 v3 v4 v5 M
    unfold f_Person_idleFrom_6
    refine xZ.adv (me := xm179) hP_179 2 (pc' := 11) (lv' := [(0, .ref v0), (1, .ref v1), (3, .int v3), (4, .int v4), (5, .int v5)]) (st' := [.int (20160 : Int32), .int v5]) rfl ?_
    refine xZ.ic_gt (me := xm179) hP_179 rfl (fun h1 => ?_) (fun h1 => ?_)
    · skip
      refine xZ.adv (me := xm179) hP_179 1 (pc' := 102) (lv' := [(0, .ref v0), (1, .ref v1), (3, .int v3), (4, .int v4), (5, .int v5)]) (st' := [.int v3]) rfl ?_
      exact xZ.reti (me := xm179) hP_179 rfl rfl
    · skip
      refine xZ.adv (me := xm179) hP_179 2 (pc' := 17) (lv' := [(0, .ref v0), (1, .ref v1), (3, .int v3), (4, .int v4), (5, .int v5)]) (st' := [.int v3, .int v4]) rfl ?_
      refine xZ.ic_ge (me := xm179) hP_179 rfl (fun h2 => ?_) (fun h2 => ?_)
      · skip
        refine xZ.adv (me := xm179) hP_179 1 (pc' := 102) (lv' := [(0, .ref v0), (1, .ref v1), (3, .int v3), (4, .int v4), (5, .int v5)]) (st' := [.int v3]) rfl ?_
        exact xZ.reti (me := xm179) hP_179 rfl rfl
      · skip
        refine xZ.adv (me := xm179) hP_179 2 (pc' := 23) (lv' := [(0, .ref v0), (1, .ref v1), (3, .int v3), (4, .int v4), (5, .int v5)]) (st' := [.int v4, .ref v1]) rfl ?_
        refine xZ.callv (κ := oI) (av := [.int v4]) (rest := []) (st' := fun x1 => [.int x1]) (k0 := v1) (me := xm179) hP_179 rfl (Or.inl rfl) ⟨rfl, by decide⟩ rfl rfl (Nat.le_of_ble_eq_true rfl) (by decide) hP_135 (Nat.le_of_ble_eq_true rfl) (fun _ => rfl) (k_f_Zone_localOf O f (d + 0) v1 v4 M) (fun x1 M1 => ?_)
        refine xZ.adv (me := xm179) hP_179 3 (pc' := 33) (lv' := [(6, .int x1), (0, .ref v0), (1, .ref v1), (3, .int v3), (4, .int v4), (5, .int v5)]) (st' := [.int (1440 : Int32), .int x1]) rfl ?_
        refine xZ.calls (κ := oI) (av := [.int x1, .int (1440 : Int32)]) (rest := []) (st' := fun x2 => [.int x2]) (me := xm179) hP_179 rfl rfl rfl (Nat.le_of_ble_eq_true rfl) (by decide) hP_250 (Nat.le_of_ble_eq_true rfl) (fun _ => rfl) (k_f_Math_floorMod O f (d + 3) x1 (1440 : Int32) M1) (fun x2 M2 => ?_)
        refine xZ.adv (me := xm179) hP_179 3 (pc' := 41) (lv' := [(7, .int x2), (6, .int x1), (0, .ref v0), (1, .ref v1), (3, .int v3), (4, .int v4), (5, .int v5)]) (st' := [.ref v0, .int x2]) rfl ?_
        refine xZ.k_gI (me := xm179) hP_179 rfl (fun x3 => ?_)
        refine xZ.ic_lt (me := xm179) hP_179 rfl (fun h3 => ?_) (fun h3 => ?_)
        · skip
          refine xZ.adv (me := xm179) hP_179 1 (pc' := 73) (lv' := [(7, .int x2), (6, .int x1), (0, .ref v0), (1, .ref v1), (3, .int v3), (4, .int v4), (5, .int v5)]) (st' := [.int v4]) rfl ?_
          exact xZ.reti (me := xm179) hP_179 rfl rfl
        · skip
          refine xZ.adv (me := xm179) hP_179 2 (pc' := 50) (lv' := [(7, .int x2), (6, .int x1), (0, .ref v0), (1, .ref v1), (3, .int v3), (4, .int v4), (5, .int v5)]) (st' := [.ref v0, .int x2]) rfl ?_
          refine xZ.k_gI (me := xm179) hP_179 rfl (fun x4 => ?_)
          refine xZ.ic_ge (me := xm179) hP_179 rfl (fun h4 => ?_) (fun h4 => ?_)
          · skip
            refine xZ.adv (me := xm179) hP_179 1 (pc' := 73) (lv' := [(7, .int x2), (6, .int x1), (0, .ref v0), (1, .ref v1), (3, .int v3), (4, .int v4), (5, .int v5)]) (st' := [.int v4]) rfl ?_
            exact xZ.reti (me := xm179) hP_179 rfl rfl
          · skip
            refine xZ.adv (me := xm179) hP_179 3 (pc' := 62) (lv' := [(7, .int x2), (6, .int x1), (0, .ref v0), (1, .ref v1), (3, .int v3), (4, .int v4), (5, .int v5)]) (st' := [.int (1440 : Int32), .int x1, .ref v0]) rfl ?_
            refine xZ.calls (κ := oI) (av := [.int x1, .int (1440 : Int32)]) (rest := [.ref v0]) (st' := fun x5 => [.int x5, .ref v0]) (me := xm179) hP_179 rfl rfl rfl (Nat.le_of_ble_eq_true rfl) (by decide) hP_251 (Nat.le_of_ble_eq_true rfl) (fun _ => rfl) (k_f_Math_floorDiv O f (d + 3) x1 (1440 : Int32) M2) (fun x5 M3 => ?_)
            refine xZ.callv (κ := oI) (av := [.int x5]) (rest := []) (st' := fun x6 => [.int x6]) (k0 := v0) (me := xm179) hP_179 rfl (Or.inl rfl) ⟨rfl, by decide⟩ rfl rfl (Nat.le_of_ble_eq_true rfl) (by decide) hP_176 (Nat.le_of_ble_eq_true rfl) (fun _ => rfl) (k_f_Person_isWorkDay O f (d + 2) v0 x5 M3) (fun x6 M4 => ?_)
            refine xZ.if_ne (me := xm179) hP_179 rfl (fun h5 => ?_) (fun h5 => ?_)
            · skip
              refine xZ.adv (me := xm179) hP_179 1 (pc' := 73) (lv' := [(7, .int x2), (6, .int x1), (0, .ref v0), (1, .ref v1), (3, .int v3), (4, .int v4), (5, .int v5)]) (st' := [.int v4]) rfl ?_
              exact xZ.reti (me := xm179) hP_179 rfl rfl
            · skip
              refine xZ.adv (me := xm179) hP_179 2 (pc' := 77) (lv' := [(7, .int x2), (6, .int x1), (0, .ref v0), (1, .ref v1), (3, .int v3), (4, .int v4), (5, .int v5)]) (st' := [.ref v0, .int v4]) rfl ?_
              refine xZ.k_gI (me := xm179) hP_179 rfl (fun x7 => ?_)
              refine xZ.adv (me := xm179) hP_179 5 (pc' := 87) (lv' := [(7, .int x2), (6, .int x1), (0, .ref v0), (1, .ref v1), (3, .int v3), (4, .int v4), (5, .int v5)]) (st' := [.int v4, .ref v1, .int ((v4 + x7) - x2)]) rfl ?_
              refine xZ.callv (κ := oI) (av := [.int v4]) (rest := [.int ((v4 + x7) - x2)]) (st' := fun x8 => [.int x8, .int ((v4 + x7) - x2)]) (k0 := v1) (me := xm179) hP_179 rfl (Or.inl rfl) ⟨rfl, by decide⟩ rfl rfl (Nat.le_of_ble_eq_true rfl) (by decide) hP_177 (Nat.le_of_ble_eq_true rfl) (fun _ => rfl) (k_f_Zone_nextSwitch O f (d + 1) v1 v4 M4) (fun x8 M5 => ?_)
              refine xZ.calls (κ := oI) (av := [.int ((v4 + x7) - x2), .int x8]) (rest := []) (st' := fun x9 => [.int x9]) (me := xm179) hP_179 rfl rfl rfl (Nat.le_of_ble_eq_true rfl) (by decide) hP_248 (Nat.le_of_ble_eq_true rfl) (fun _ => rfl) (k_f_Math_min O f (d + 3) ((v4 + x7) - x2) x8 M5) (fun x9 M6 => ?_)
              refine xZ.adv (me := xm179) hP_179 3 (pc' := 6) (lv' := [(5, .int (v5 + (1 : Int32))), (4, .int x9), (7, .int x2), (6, .int x1), (0, .ref v0), (1, .ref v1), (3, .int v3)]) (st' := []) rfl ?_
              exact xZ.sub (xsc (.tail _ (.tail _ (.tail _ (.tail _ (.head _))))) (xsc (.tail _ (.tail _ (.tail _ (.tail _ (.tail _ (.head _)))))) (xsc (.tail _ (.tail _ (.tail _ (.tail _ (.tail _ (.tail _ (.head _))))))) (xsc (.tail _ (.head _)) (xsc (.head _) xsn))))) (show ([5, 4, 7, 6, 0, 1, 3] : List Nat).Nodup from by decide) (ih v0 v1 v3 x9 (v5 + (1 : Int32)) M6)
def f_Person_idleFrom (O : Nat → Option va_E) (f : Nat) (v0 : Nat) (v1 : Nat) (v2 : Int32) (v3 : Int32) (M : xM) : Option (Int32 × xM) :=
  f_Person_idleFrom_6 O f f v0 v1 v3 v2 (0 : Int32) M
set_option maxRecDepth 20000 in
theorem k_f_Person_idleFrom (O : Nat → Option va_E) (f d : Nat) (v0 : Nat) (v1 : Nat) (v2 : Int32) (v3 : Int32) (M : xM) : xZ oI O (d + 4) 179 0 [(0, .ref v0), (1, .ref v1), (2, .int v2), (3, .int v3)] [] M (f_Person_idleFrom O f v0 v1 v2 v3 M) := by
  unfold f_Person_idleFrom
  refine xZ.adv (me := xm179) hP_179 4 (pc' := 6) (lv' := [(5, .int (0 : Int32)), (4, .int v2), (0, .ref v0), (1, .ref v1), (2, .int v2), (3, .int v3)]) (st' := []) rfl ?_
  exact xZ.sub (xsc (.tail _ (.tail _ (.head _))) (xsc (.tail _ (.tail _ (.tail _ (.head _)))) (xsc (.tail _ (.tail _ (.tail _ (.tail _ (.tail _ (.head _)))))) (xsc (.tail _ (.head _)) (xsc (.head _) xsn))))) (show ([5, 4, 0, 1, 2, 3] : List Nat).Nodup from by decide) (k_f_Person_idleFrom_6 O f d f v0 v1 v3 v2 (0 : Int32) M)
def f_Calendarhall_countMinutes_146 (O : Nat → Option va_E) (f : Nat) (K22 : Nat → Nat → Int32 → Int32 → Nat → Int32 → Int32 → Int32 → xM → Option (Int32 × xM)) (v0 : Nat) (v1 : Nat) (v3 : Int32) (v4 : Int32) (v5 : Nat) (v6 : Int32) (v8 : Int32) (v9 : Int32) (M : xM) : Option (Int32 × xM) :=
  K22 v0 v1 v3 v4 v5 v6 v9 (v8 + (1 : Int32)) M
set_option maxRecDepth 20000 in
theorem k_f_Calendarhall_countMinutes_146 (O : Nat → Option va_E) (f d : Nat) (K22 : Nat → Nat → Int32 → Int32 → Nat → Int32 → Int32 → Int32 → xM → Option (Int32 × xM)) (hK22 : ∀ (v0 : Nat) (v1 : Nat) (v3 : Int32) (v4 : Int32) (v5 : Nat) (v6 : Int32) (v7 : Int32) (v8 : Int32) M, xZ oI O (d + 5) 168 22 [(0, .ref v0), (1, .ref v1), (3, .int v3), (4, .int v4), (5, .ref v5), (6, .int v6), (7, .int v7), (8, .int v8)] [] M (K22 v0 v1 v3 v4 v5 v6 v7 v8 M)) (v0 : Nat) (v1 : Nat) (v3 : Int32) (v4 : Int32) (v5 : Nat) (v6 : Int32) (v8 : Int32) (v9 : Int32) (M : xM) : xZ oI O (d + 5) 168 146 [(0, .ref v0), (1, .ref v1), (3, .int v3), (4, .int v4), (5, .ref v5), (6, .int v6), (8, .int v8), (9, .int v9)] [] M (f_Calendarhall_countMinutes_146 O f K22 v0 v1 v3 v4 v5 v6 v8 v9 M) := by
  unfold f_Calendarhall_countMinutes_146
  refine xZ.adv (me := xm168) hP_168 4 (pc' := 22) (lv' := [(8, .int (v8 + (1 : Int32))), (7, .int v9), (0, .ref v0), (1, .ref v1), (3, .int v3), (4, .int v4), (5, .ref v5), (6, .int v6), (9, .int v9)]) (st' := []) rfl ?_
  exact xZ.sub (xsc (.tail _ (.tail _ (.head _))) (xsc (.tail _ (.tail _ (.tail _ (.head _)))) (xsc (.tail _ (.tail _ (.tail _ (.tail _ (.head _))))) (xsc (.tail _ (.tail _ (.tail _ (.tail _ (.tail _ (.head _)))))) (xsc (.tail _ (.tail _ (.tail _ (.tail _ (.tail _ (.tail _ (.head _))))))) (xsc (.tail _ (.tail _ (.tail _ (.tail _ (.tail _ (.tail _ (.tail _ (.head _)))))))) (xsc (.tail _ (.head _)) (xsc (.head _) xsn)))))))) (show ([8, 7, 0, 1, 3, 4, 5, 6, 9] : List Nat).Nodup from by decide) (hK22 v0 v1 v3 v4 v5 v6 v9 (v8 + (1 : Int32)) M)
def f_Calendarhall_countMinutes_132 (O : Nat → Option va_E) (f : Nat) (K22 : Nat → Nat → Int32 → Int32 → Nat → Int32 → Int32 → Int32 → xM → Option (Int32 × xM)) (v0 : Nat) (v1 : Nat) (v3 : Int32) (v4 : Int32) (v5 : Nat) (v6 : Int32) (v7 : Int32) (v8 : Int32) (v10 : Int32) (M : xM) : Option (Int32 × xM) :=
  f_Calendarhall_countMinutes_146 O f K22 v0 v1 v3 v4 v5 (v6 + (v10 - v7)) v8 v10 M
set_option maxRecDepth 20000 in
theorem k_f_Calendarhall_countMinutes_132 (O : Nat → Option va_E) (f d : Nat) (K22 : Nat → Nat → Int32 → Int32 → Nat → Int32 → Int32 → Int32 → xM → Option (Int32 × xM)) (hK22 : ∀ (v0 : Nat) (v1 : Nat) (v3 : Int32) (v4 : Int32) (v5 : Nat) (v6 : Int32) (v7 : Int32) (v8 : Int32) M, xZ oI O (d + 5) 168 22 [(0, .ref v0), (1, .ref v1), (3, .int v3), (4, .int v4), (5, .ref v5), (6, .int v6), (7, .int v7), (8, .int v8)] [] M (K22 v0 v1 v3 v4 v5 v6 v7 v8 M)) (v0 : Nat) (v1 : Nat) (v3 : Int32) (v4 : Int32) (v5 : Nat) (v6 : Int32) (v7 : Int32) (v8 : Int32) (v10 : Int32) (M : xM) : xZ oI O (d + 5) 168 132 [(0, .ref v0), (1, .ref v1), (3, .int v3), (4, .int v4), (5, .ref v5), (6, .int v6), (7, .int v7), (8, .int v8), (10, .int v10)] [] M (f_Calendarhall_countMinutes_132 O f K22 v0 v1 v3 v4 v5 v6 v7 v8 v10 M) := by
  unfold f_Calendarhall_countMinutes_132
  refine xZ.adv (me := xm168) hP_168 8 (pc' := 146) (lv' := [(9, .int v10), (6, .int (v6 + (v10 - v7))), (0, .ref v0), (1, .ref v1), (3, .int v3), (4, .int v4), (5, .ref v5), (7, .int v7), (8, .int v8), (10, .int v10)]) (st' := []) rfl ?_
  exact xZ.sub (xsc (.tail _ (.tail _ (.head _))) (xsc (.tail _ (.tail _ (.tail _ (.head _)))) (xsc (.tail _ (.tail _ (.tail _ (.tail _ (.head _))))) (xsc (.tail _ (.tail _ (.tail _ (.tail _ (.tail _ (.head _)))))) (xsc (.tail _ (.tail _ (.tail _ (.tail _ (.tail _ (.tail _ (.head _))))))) (xsc (.tail _ (.head _)) (xsc (.tail _ (.tail _ (.tail _ (.tail _ (.tail _ (.tail _ (.tail _ (.tail _ (.head _))))))))) (xsc (.head _) xsn)))))))) (show ([9, 6, 0, 1, 3, 4, 5, 7, 8, 10] : List Nat).Nodup from by decide) (k_f_Calendarhall_countMinutes_146 O f d K22 hK22 v0 v1 v3 v4 v5 (v6 + (v10 - v7)) v8 v10 M)
def f_Calendarhall_countMinutes_109 (O : Nat → Option va_E) (f : Nat) (K22 : Nat → Nat → Int32 → Int32 → Nat → Int32 → Int32 → Int32 → xM → Option (Int32 × xM)) (v0 : Nat) (v1 : Nat) (v3 : Int32) (v4 : Int32) (v5 : Nat) (v6 : Int32) (v7 : Int32) (v8 : Int32) (s0 : Int32) (M : xM) : Option (Int32 × xM) :=
  if v4 = 0 then (
    f_Calendarhall_countMinutes_132 O f K22 v0 v1 v3 v4 v5 v6 v7 v8 s0 M
  ) else
  (isO O M v1 6).bind fun _ =>
  xcl (f_Person_idleFrom O f v1 v5 v7 v3 M) fun x1 M1 =>
  xcl (f_Math_min O f s0 x1 M1) fun x2 M2 =>
  f_Calendarhall_countMinutes_132 O f K22 v0 v1 v3 v4 v5 v6 v7 v8 x2 M2
set_option maxRecDepth 20000 in
theorem k_f_Calendarhall_countMinutes_109 (O : Nat → Option va_E) (f d : Nat) (K22 : Nat → Nat → Int32 → Int32 → Nat → Int32 → Int32 → Int32 → xM → Option (Int32 × xM)) (hK22 : ∀ (v0 : Nat) (v1 : Nat) (v3 : Int32) (v4 : Int32) (v5 : Nat) (v6 : Int32) (v7 : Int32) (v8 : Int32) M, xZ oI O (d + 5) 168 22 [(0, .ref v0), (1, .ref v1), (3, .int v3), (4, .int v4), (5, .ref v5), (6, .int v6), (7, .int v7), (8, .int v8)] [] M (K22 v0 v1 v3 v4 v5 v6 v7 v8 M)) (v0 : Nat) (v1 : Nat) (v3 : Int32) (v4 : Int32) (v5 : Nat) (v6 : Int32) (v7 : Int32) (v8 : Int32) (s0 : Int32) (M : xM) : xZ oI O (d + 5) 168 109 [(0, .ref v0), (1, .ref v1), (3, .int v3), (4, .int v4), (5, .ref v5), (6, .int v6), (7, .int v7), (8, .int v8)] [.int s0] M (f_Calendarhall_countMinutes_109 O f K22 v0 v1 v3 v4 v5 v6 v7 v8 s0 M) := by
  unfold f_Calendarhall_countMinutes_109
  refine xZ.adv (me := xm168) hP_168 2 (pc' := 113) (lv' := [(10, .int s0), (0, .ref v0), (1, .ref v1), (3, .int v3), (4, .int v4), (5, .ref v5), (6, .int v6), (7, .int v7), (8, .int v8)]) (st' := [.int v4]) rfl ?_
  refine xZ.if_eq (me := xm168) hP_168 rfl (fun h1 => ?_) (fun h1 => ?_)
  · skip
    exact xZ.sub (xsc (.tail _ (.head _)) (xsc (.tail _ (.tail _ (.head _))) (xsc (.tail _ (.tail _ (.tail _ (.head _)))) (xsc (.tail _ (.tail _ (.tail _ (.tail _ (.head _))))) (xsc (.tail _ (.tail _ (.tail _ (.tail _ (.tail _ (.head _)))))) (xsc (.tail _ (.tail _ (.tail _ (.tail _ (.tail _ (.tail _ (.head _))))))) (xsc (.tail _ (.tail _ (.tail _ (.tail _ (.tail _ (.tail _ (.tail _ (.head _)))))))) (xsc (.tail _ (.tail _ (.tail _ (.tail _ (.tail _ (.tail _ (.tail _ (.tail _ (.head _))))))))) (xsc (.head _) xsn))))))))) (show ([10, 0, 1, 3, 4, 5, 6, 7, 8] : List Nat).Nodup from by decide) (k_f_Calendarhall_countMinutes_132 O f d K22 hK22 v0 v1 v3 v4 v5 v6 v7 v8 s0 M)
  · skip
    refine xZ.adv (me := xm168) hP_168 5 (pc' := 124) (lv' := [(10, .int s0), (0, .ref v0), (1, .ref v1), (3, .int v3), (4, .int v4), (5, .ref v5), (6, .int v6), (7, .int v7), (8, .int v8)]) (st' := [.int v3, .int v7, .ref v5, .ref v1, .int s0]) rfl ?_
    refine xZ.callv (κ := oI) (av := [.ref v5, .int v7, .int v3]) (rest := [.int s0]) (st' := fun x1 => [.int x1, .int s0]) (k0 := v1) (me := xm168) hP_168 rfl (Or.inl rfl) ⟨rfl, by decide⟩ rfl rfl (Nat.le_of_ble_eq_true rfl) (by decide) hP_179 (Nat.le_of_ble_eq_true rfl) (fun _ => rfl) (k_f_Person_idleFrom O f (d + 0) v1 v5 v7 v3 M) (fun x1 M1 => ?_)
    refine xZ.calls (κ := oI) (av := [.int s0, .int x1]) (rest := []) (st' := fun x2 => [.int x2]) (me := xm168) hP_168 rfl rfl rfl (Nat.le_of_ble_eq_true rfl) (by decide) hP_248 (Nat.le_of_ble_eq_true rfl) (fun _ => rfl) (k_f_Math_min O f (d + 4) s0 x1 M1) (fun x2 M2 => ?_)
    refine xZ.adv (me := xm168) hP_168 1 (pc' := 132) (lv' := [(10, .int x2), (0, .ref v0), (1, .ref v1), (3, .int v3), (4, .int v4), (5, .ref v5), (6, .int v6), (7, .int v7), (8, .int v8)]) (st' := []) rfl ?_
    exact xZ.sub (xsc (.tail _ (.head _)) (xsc (.tail _ (.tail _ (.head _))) (xsc (.tail _ (.tail _ (.tail _ (.head _)))) (xsc (.tail _ (.tail _ (.tail _ (.tail _ (.head _))))) (xsc (.tail _ (.tail _ (.tail _ (.tail _ (.tail _ (.head _)))))) (xsc (.tail _ (.tail _ (.tail _ (.tail _ (.tail _ (.tail _ (.head _))))))) (xsc (.tail _ (.tail _ (.tail _ (.tail _ (.tail _ (.tail _ (.tail _ (.head _)))))))) (xsc (.tail _ (.tail _ (.tail _ (.tail _ (.tail _ (.tail _ (.tail _ (.tail _ (.head _))))))))) (xsc (.head _) xsn))))))))) (show ([10, 0, 1, 3, 4, 5, 6, 7, 8] : List Nat).Nodup from by decide) (k_f_Calendarhall_countMinutes_132 O f d K22 hK22 v0 v1 v3 v4 v5 v6 v7 v8 x2 M2)
def f_Calendarhall_countMinutes_79 (O : Nat → Option va_E) (f : Nat) (K22 : Nat → Nat → Int32 → Int32 → Nat → Int32 → Int32 → Int32 → xM → Option (Int32 × xM)) (v0 : Nat) (v1 : Nat) (v3 : Int32) (v4 : Int32) (v5 : Nat) (v6 : Int32) (v7 : Int32) (v8 : Int32) (v9 : Int32) (M : xM) : Option (Int32 × xM) :=
  if v9 = v7 then (
    if v4 = (1 : Int32) then (
      f_Calendarhall_countMinutes_109 O f K22 v0 v1 v3 v4 v5 v6 v7 v8 v3 M
    ) else
    (gR O M v0 12 4).bind fun x1 =>
    (isO O M x1 2).bind fun _ =>
    xcl (f_Dates_offFrom O f x1 v7 M) fun x2 M1 =>
    xcl (f_Math_min O f v3 x2 M1) fun x3 M2 =>
    f_Calendarhall_countMinutes_109 O f K22 v0 v1 v3 v4 v5 v6 v7 v8 x3 M2
  ) else
  f_Calendarhall_countMinutes_146 O f K22 v0 v1 v3 v4 v5 v6 v8 v9 M
set_option maxRecDepth 20000 in
theorem k_f_Calendarhall_countMinutes_79 (O : Nat → Option va_E) (f d : Nat) (K22 : Nat → Nat → Int32 → Int32 → Nat → Int32 → Int32 → Int32 → xM → Option (Int32 × xM)) (hK22 : ∀ (v0 : Nat) (v1 : Nat) (v3 : Int32) (v4 : Int32) (v5 : Nat) (v6 : Int32) (v7 : Int32) (v8 : Int32) M, xZ oI O (d + 5) 168 22 [(0, .ref v0), (1, .ref v1), (3, .int v3), (4, .int v4), (5, .ref v5), (6, .int v6), (7, .int v7), (8, .int v8)] [] M (K22 v0 v1 v3 v4 v5 v6 v7 v8 M)) (v0 : Nat) (v1 : Nat) (v3 : Int32) (v4 : Int32) (v5 : Nat) (v6 : Int32) (v7 : Int32) (v8 : Int32) (v9 : Int32) (M : xM) : xZ oI O (d + 5) 168 79 [(0, .ref v0), (1, .ref v1), (3, .int v3), (4, .int v4), (5, .ref v5), (6, .int v6), (7, .int v7), (8, .int v8), (9, .int v9)] [] M (f_Calendarhall_countMinutes_79 O f K22 v0 v1 v3 v4 v5 v6 v7 v8 v9 M) := by
  unfold f_Calendarhall_countMinutes_79
  refine xZ.adv (me := xm168) hP_168 2 (pc' := 83) (lv' := [(0, .ref v0), (1, .ref v1), (3, .int v3), (4, .int v4), (5, .ref v5), (6, .int v6), (7, .int v7), (8, .int v8), (9, .int v9)]) (st' := [.int v7, .int v9]) rfl ?_
  refine xZ.ic_ne (me := xm168) hP_168 rfl (fun h1 => ?_) (fun h1 => ?_)
  · skip
    refine xZ.adv (me := xm168) hP_168 2 (pc' := 89) (lv' := [(0, .ref v0), (1, .ref v1), (3, .int v3), (4, .int v4), (5, .ref v5), (6, .int v6), (7, .int v7), (8, .int v8), (9, .int v9)]) (st' := [.int (1 : Int32), .int v4]) rfl ?_
    refine xZ.ic_ne (me := xm168) hP_168 rfl (fun h2 => ?_) (fun h2 => ?_)
    · skip
      refine xZ.adv (me := xm168) hP_168 2 (pc' := 109) (lv' := [(0, .ref v0), (1, .ref v1), (3, .int v3), (4, .int v4), (5, .ref v5), (6, .int v6), (7, .int v7), (8, .int v8), (9, .int v9)]) (st' := [.int v3]) rfl ?_
      exact xZ.sub (xsc (.head _) (xsc (.tail _ (.head _)) (xsc (.tail _ (.tail _ (.head _))) (xsc (.tail _ (.tail _ (.tail _ (.head _)))) (xsc (.tail _ (.tail _ (.tail _ (.tail _ (.head _))))) (xsc (.tail _ (.tail _ (.tail _ (.tail _ (.tail _ (.head _)))))) (xsc (.tail _ (.tail _ (.tail _ (.tail _ (.tail _ (.tail _ (.head _))))))) (xsc (.tail _ (.tail _ (.tail _ (.tail _ (.tail _ (.tail _ (.tail _ (.head _)))))))) xsn)))))))) (show ([0, 1, 3, 4, 5, 6, 7, 8, 9] : List Nat).Nodup from by decide) (k_f_Calendarhall_countMinutes_109 O f d K22 hK22 v0 v1 v3 v4 v5 v6 v7 v8 v3 M)
    · skip
      refine xZ.adv (me := xm168) hP_168 2 (pc' := 98) (lv' := [(0, .ref v0), (1, .ref v1), (3, .int v3), (4, .int v4), (5, .ref v5), (6, .int v6), (7, .int v7), (8, .int v8), (9, .int v9)]) (st' := [.ref v0, .int v3]) rfl ?_
      refine xZ.k_gR (me := xm168) hP_168 rfl (fun x1 => ?_)
      refine xZ.adv (me := xm168) hP_168 1 (pc' := 103) (lv' := [(0, .ref v0), (1, .ref v1), (3, .int v3), (4, .int v4), (5, .ref v5), (6, .int v6), (7, .int v7), (8, .int v8), (9, .int v9)]) (st' := [.int v7, .ref x1, .int v3]) rfl ?_
      refine xZ.callv (κ := oI) (av := [.int v7]) (rest := [.int v3]) (st' := fun x2 => [.int x2, .int v3]) (k0 := x1) (me := xm168) hP_168 rfl (Or.inl rfl) ⟨rfl, by decide⟩ rfl rfl (Nat.le_of_ble_eq_true rfl) (by decide) hP_178 (Nat.le_of_ble_eq_true rfl) (fun _ => rfl) (k_f_Dates_offFrom O f (d + 1) x1 v7 M) (fun x2 M1 => ?_)
      refine xZ.calls (κ := oI) (av := [.int v3, .int x2]) (rest := []) (st' := fun x3 => [.int x3]) (me := xm168) hP_168 rfl rfl rfl (Nat.le_of_ble_eq_true rfl) (by decide) hP_248 (Nat.le_of_ble_eq_true rfl) (fun _ => rfl) (k_f_Math_min O f (d + 4) v3 x2 M1) (fun x3 M2 => ?_)
      exact xZ.sub (xsc (.head _) (xsc (.tail _ (.head _)) (xsc (.tail _ (.tail _ (.head _))) (xsc (.tail _ (.tail _ (.tail _ (.head _)))) (xsc (.tail _ (.tail _ (.tail _ (.tail _ (.head _))))) (xsc (.tail _ (.tail _ (.tail _ (.tail _ (.tail _ (.head _)))))) (xsc (.tail _ (.tail _ (.tail _ (.tail _ (.tail _ (.tail _ (.head _))))))) (xsc (.tail _ (.tail _ (.tail _ (.tail _ (.tail _ (.tail _ (.tail _ (.head _)))))))) xsn)))))))) (show ([0, 1, 3, 4, 5, 6, 7, 8, 9] : List Nat).Nodup from by decide) (k_f_Calendarhall_countMinutes_109 O f d K22 hK22 v0 v1 v3 v4 v5 v6 v7 v8 x3 M2)
  · skip
    exact xZ.sub (xsc (.head _) (xsc (.tail _ (.head _)) (xsc (.tail _ (.tail _ (.head _))) (xsc (.tail _ (.tail _ (.tail _ (.head _)))) (xsc (.tail _ (.tail _ (.tail _ (.tail _ (.head _))))) (xsc (.tail _ (.tail _ (.tail _ (.tail _ (.tail _ (.head _)))))) (xsc (.tail _ (.tail _ (.tail _ (.tail _ (.tail _ (.tail _ (.tail _ (.head _)))))))) (xsc (.tail _ (.tail _ (.tail _ (.tail _ (.tail _ (.tail _ (.tail _ (.tail _ (.head _))))))))) xsn)))))))) (show ([0, 1, 3, 4, 5, 6, 7, 8, 9] : List Nat).Nodup from by decide) (k_f_Calendarhall_countMinutes_146 O f d K22 hK22 v0 v1 v3 v4 v5 v6 v8 v9 M)
def f_Calendarhall_countMinutes_56 (O : Nat → Option va_E) (f : Nat) (K22 : Nat → Nat → Int32 → Int32 → Nat → Int32 → Int32 → Int32 → xM → Option (Int32 × xM)) (v0 : Nat) (v1 : Nat) (v3 : Int32) (v4 : Int32) (v5 : Nat) (v6 : Int32) (v7 : Int32) (v8 : Int32) (s0 : Int32) (M : xM) : Option (Int32 × xM) :=
  if v4 = 0 then (
    f_Calendarhall_countMinutes_79 O f K22 v0 v1 v3 v4 v5 v6 v7 v8 s0 M
  ) else
  (isO O M v1 6).bind fun _ =>
  xcl (f_Person_workFrom O f v1 v5 v7 v3 M) fun x1 M1 =>
  xcl (f_Math_max O f s0 x1 M1) fun x2 M2 =>
  f_Calendarhall_countMinutes_79 O f K22 v0 v1 v3 v4 v5 v6 v7 v8 x2 M2
set_option maxRecDepth 20000 in
theorem k_f_Calendarhall_countMinutes_56 (O : Nat → Option va_E) (f d : Nat) (K22 : Nat → Nat → Int32 → Int32 → Nat → Int32 → Int32 → Int32 → xM → Option (Int32 × xM)) (hK22 : ∀ (v0 : Nat) (v1 : Nat) (v3 : Int32) (v4 : Int32) (v5 : Nat) (v6 : Int32) (v7 : Int32) (v8 : Int32) M, xZ oI O (d + 5) 168 22 [(0, .ref v0), (1, .ref v1), (3, .int v3), (4, .int v4), (5, .ref v5), (6, .int v6), (7, .int v7), (8, .int v8)] [] M (K22 v0 v1 v3 v4 v5 v6 v7 v8 M)) (v0 : Nat) (v1 : Nat) (v3 : Int32) (v4 : Int32) (v5 : Nat) (v6 : Int32) (v7 : Int32) (v8 : Int32) (s0 : Int32) (M : xM) : xZ oI O (d + 5) 168 56 [(0, .ref v0), (1, .ref v1), (3, .int v3), (4, .int v4), (5, .ref v5), (6, .int v6), (7, .int v7), (8, .int v8)] [.int s0] M (f_Calendarhall_countMinutes_56 O f K22 v0 v1 v3 v4 v5 v6 v7 v8 s0 M) := by
  unfold f_Calendarhall_countMinutes_56
  refine xZ.adv (me := xm168) hP_168 2 (pc' := 60) (lv' := [(9, .int s0), (0, .ref v0), (1, .ref v1), (3, .int v3), (4, .int v4), (5, .ref v5), (6, .int v6), (7, .int v7), (8, .int v8)]) (st' := [.int v4]) rfl ?_
  refine xZ.if_eq (me := xm168) hP_168 rfl (fun h1 => ?_) (fun h1 => ?_)
  · skip
    exact xZ.sub (xsc (.tail _ (.head _)) (xsc (.tail _ (.tail _ (.head _))) (xsc (.tail _ (.tail _ (.tail _ (.head _)))) (xsc (.tail _ (.tail _ (.tail _ (.tail _ (.head _))))) (xsc (.tail _ (.tail _ (.tail _ (.tail _ (.tail _ (.head _)))))) (xsc (.tail _ (.tail _ (.tail _ (.tail _ (.tail _ (.tail _ (.head _))))))) (xsc (.tail _ (.tail _ (.tail _ (.tail _ (.tail _ (.tail _ (.tail _ (.head _)))))))) (xsc (.tail _ (.tail _ (.tail _ (.tail _ (.tail _ (.tail _ (.tail _ (.tail _ (.head _))))))))) (xsc (.head _) xsn))))))))) (show ([9, 0, 1, 3, 4, 5, 6, 7, 8] : List Nat).Nodup from by decide) (k_f_Calendarhall_countMinutes_79 O f d K22 hK22 v0 v1 v3 v4 v5 v6 v7 v8 s0 M)
  · skip
    refine xZ.adv (me := xm168) hP_168 5 (pc' := 71) (lv' := [(9, .int s0), (0, .ref v0), (1, .ref v1), (3, .int v3), (4, .int v4), (5, .ref v5), (6, .int v6), (7, .int v7), (8, .int v8)]) (st' := [.int v3, .int v7, .ref v5, .ref v1, .int s0]) rfl ?_
    refine xZ.callv (κ := oI) (av := [.ref v5, .int v7, .int v3]) (rest := [.int s0]) (st' := fun x1 => [.int x1, .int s0]) (k0 := v1) (me := xm168) hP_168 rfl (Or.inl rfl) ⟨rfl, by decide⟩ rfl rfl (Nat.le_of_ble_eq_true rfl) (by decide) hP_175 (Nat.le_of_ble_eq_true rfl) (fun _ => rfl) (k_f_Person_workFrom O f (d + 0) v1 v5 v7 v3 M) (fun x1 M1 => ?_)
    refine xZ.calls (κ := oI) (av := [.int s0, .int x1]) (rest := []) (st' := fun x2 => [.int x2]) (me := xm168) hP_168 rfl rfl rfl (Nat.le_of_ble_eq_true rfl) (by decide) hP_247 (Nat.le_of_ble_eq_true rfl) (fun _ => rfl) (k_f_Math_max O f (d + 4) s0 x1 M1) (fun x2 M2 => ?_)
    refine xZ.adv (me := xm168) hP_168 1 (pc' := 79) (lv' := [(9, .int x2), (0, .ref v0), (1, .ref v1), (3, .int v3), (4, .int v4), (5, .ref v5), (6, .int v6), (7, .int v7), (8, .int v8)]) (st' := []) rfl ?_
    exact xZ.sub (xsc (.tail _ (.head _)) (xsc (.tail _ (.tail _ (.head _))) (xsc (.tail _ (.tail _ (.tail _ (.head _)))) (xsc (.tail _ (.tail _ (.tail _ (.tail _ (.head _))))) (xsc (.tail _ (.tail _ (.tail _ (.tail _ (.tail _ (.head _)))))) (xsc (.tail _ (.tail _ (.tail _ (.tail _ (.tail _ (.tail _ (.head _))))))) (xsc (.tail _ (.tail _ (.tail _ (.tail _ (.tail _ (.tail _ (.tail _ (.head _)))))))) (xsc (.tail _ (.tail _ (.tail _ (.tail _ (.tail _ (.tail _ (.tail _ (.tail _ (.head _))))))))) (xsc (.head _) xsn))))))))) (show ([9, 0, 1, 3, 4, 5, 6, 7, 8] : List Nat).Nodup from by decide) (k_f_Calendarhall_countMinutes_79 O f d K22 hK22 v0 v1 v3 v4 v5 v6 v7 v8 x2 M2)
def f_Calendarhall_countMinutes_22 (O : Nat → Option va_E) (f : Nat) : Nat → Nat → Nat → Int32 → Int32 → Nat → Int32 → Int32 → Int32 → xM → Option (Int32 × xM)
  | 0, _, _, _, _, _, _, _, _, _ => none
  | n + 1, v0, v1, v3, v4, v5, v6, v7, v8, M =>
    if (20160 : Int32) < v8 then (
      some (v6, M)
    ) else
    if v3 ≤ v7 then (
      some (v6, M)
    ) else
    if v4 = (1 : Int32) then (
      f_Calendarhall_countMinutes_56 O f (f_Calendarhall_countMinutes_22 O f n) v0 v1 v3 v4 v5 v6 v7 v8 v7 M
    ) else
    (gR O M v0 12 4).bind fun x1 =>
    (isO O M x1 2).bind fun _ =>
    xcl (f_Dates_onFrom O f x1 v7 M) fun x2 M1 =>
    f_Calendarhall_countMinutes_56 O f (f_Calendarhall_countMinutes_22 O f n) v0 v1 v3 v4 v5 v6 v7 v8 x2 M1
set_option maxRecDepth 20000 in
theorem k_f_Calendarhall_countMinutes_22 (O : Nat → Option va_E) (f d : Nat) : ∀ (n : Nat) (v0 : Nat) (v1 : Nat) (v3 : Int32) (v4 : Int32) (v5 : Nat) (v6 : Int32) (v7 : Int32) (v8 : Int32) (M : xM), xZ oI O (d + 5) 168 22 [(0, .ref v0), (1, .ref v1), (3, .int v3), (4, .int v4), (5, .ref v5), (6, .int v6), (7, .int v7), (8, .int v8)] [] M (f_Calendarhall_countMinutes_22 O f n v0 v1 v3 v4 v5 v6 v7 v8 M) := by
  intro n
  induction n with
  | zero =>
    intro v0 v1 v3 v4 v5 v6 v7 v8 M
    exact xZ.no
  | succ n ih =>
    intro v0 v1 v3 v4 v5 v6 v7 v8 M
    unfold f_Calendarhall_countMinutes_22
    refine xZ.adv (me := xm168) hP_168 2 (pc' := 27) (lv' := [(0, .ref v0), (1, .ref v1), (3, .int v3), (4, .int v4), (5, .ref v5), (6, .int v6), (7, .int v7), (8, .int v8)]) (st' := [.int (20160 : Int32), .int v8]) rfl ?_
    refine xZ.ic_gt (me := xm168) hP_168 rfl (fun h1 => ?_) (fun h1 => ?_)
    · skip
      refine xZ.adv (me := xm168) hP_168 1 (pc' := 158) (lv' := [(0, .ref v0), (1, .ref v1), (3, .int v3), (4, .int v4), (5, .ref v5), (6, .int v6), (7, .int v7), (8, .int v8)]) (st' := [.int v6]) rfl ?_
      exact xZ.reti (me := xm168) hP_168 rfl rfl
    · skip
      refine xZ.adv (me := xm168) hP_168 2 (pc' := 33) (lv' := [(0, .ref v0), (1, .ref v1), (3, .int v3), (4, .int v4), (5, .ref v5), (6, .int v6), (7, .int v7), (8, .int v8)]) (st' := [.int v3, .int v7]) rfl ?_
      refine xZ.ic_ge (me := xm168) hP_168 rfl (fun h2 => ?_) (fun h2 => ?_)
      · skip
        refine xZ.adv (me := xm168) hP_168 1 (pc' := 158) (lv' := [(0, .ref v0), (1, .ref v1), (3, .int v3), (4, .int v4), (5, .ref v5), (6, .int v6), (7, .int v7), (8, .int v8)]) (st' := [.int v6]) rfl ?_
        exact xZ.reti (me := xm168) hP_168 rfl rfl
      · skip
        refine xZ.adv (me := xm168) hP_168 2 (pc' := 39) (lv' := [(0, .ref v0), (1, .ref v1), (3, .int v3), (4, .int v4), (5, .ref v5), (6, .int v6), (7, .int v7), (8, .int v8)]) (st' := [.int (1 : Int32), .int v4]) rfl ?_
        refine xZ.ic_ne (me := xm168) hP_168 rfl (fun h3 => ?_) (fun h3 => ?_)
        · skip
          refine xZ.adv (me := xm168) hP_168 2 (pc' := 56) (lv' := [(0, .ref v0), (1, .ref v1), (3, .int v3), (4, .int v4), (5, .ref v5), (6, .int v6), (7, .int v7), (8, .int v8)]) (st' := [.int v7]) rfl ?_
          exact (k_f_Calendarhall_countMinutes_56 O f d (f_Calendarhall_countMinutes_22 O f n) ih v0 v1 v3 v4 v5 v6 v7 v8 v7 M)
        · skip
          refine xZ.adv (me := xm168) hP_168 1 (pc' := 48) (lv' := [(0, .ref v0), (1, .ref v1), (3, .int v3), (4, .int v4), (5, .ref v5), (6, .int v6), (7, .int v7), (8, .int v8)]) (st' := [.ref v0]) rfl ?_
          refine xZ.k_gR (me := xm168) hP_168 rfl (fun x1 => ?_)
          refine xZ.adv (me := xm168) hP_168 1 (pc' := 53) (lv' := [(0, .ref v0), (1, .ref v1), (3, .int v3), (4, .int v4), (5, .ref v5), (6, .int v6), (7, .int v7), (8, .int v8)]) (st' := [.int v7, .ref x1]) rfl ?_
          refine xZ.callv (κ := oI) (av := [.int v7]) (rest := []) (st' := fun x2 => [.int x2]) (k0 := x1) (me := xm168) hP_168 rfl (Or.inl rfl) ⟨rfl, by decide⟩ rfl rfl (Nat.le_of_ble_eq_true rfl) (by decide) hP_169 (Nat.le_of_ble_eq_true rfl) (fun _ => rfl) (k_f_Dates_onFrom O f (d + 1) x1 v7 M) (fun x2 M1 => ?_)
          exact (k_f_Calendarhall_countMinutes_56 O f d (f_Calendarhall_countMinutes_22 O f n) ih v0 v1 v3 v4 v5 v6 v7 v8 x2 M1)
def f_Calendarhall_countMinutes (O : Nat → Option va_E) (f : Nat) (v0 : Nat) (v1 : Nat) (v2 : Int32) (v3 : Int32) (v4 : Int32) (M : xM) : Option (Int32 × xM) :=
  (gR O M v0 12 0).bind fun x1 =>
  (gI O M v1 6 0).bind fun x2 =>
  (isO O M x1 4).bind fun _ =>
  xcl (f_Hall_anyZone O f x1 x2 M) fun x3 M1 =>
  f_Calendarhall_countMinutes_22 O f f v0 v1 v3 v4 x3 (0 : Int32) v2 (0 : Int32) M1
set_option maxRecDepth 20000 in
theorem k_f_Calendarhall_countMinutes (O : Nat → Option va_E) (f d : Nat) (v0 : Nat) (v1 : Nat) (v2 : Int32) (v3 : Int32) (v4 : Int32) (M : xM) : xZ oI O (d + 5) 168 0 [(0, .ref v0), (1, .ref v1), (2, .int v2), (3, .int v3), (4, .int v4)] [] M (f_Calendarhall_countMinutes O f v0 v1 v2 v3 v4 M) := by
  unfold f_Calendarhall_countMinutes
  refine xZ.adv (me := xm168) hP_168 1 (pc' := 1) (lv' := [(0, .ref v0), (1, .ref v1), (2, .int v2), (3, .int v3), (4, .int v4)]) (st' := [.ref v0]) rfl ?_
  refine xZ.k_gR (me := xm168) hP_168 rfl (fun x1 => ?_)
  refine xZ.adv (me := xm168) hP_168 1 (pc' := 5) (lv' := [(0, .ref v0), (1, .ref v1), (2, .int v2), (3, .int v3), (4, .int v4)]) (st' := [.ref v1, .ref x1]) rfl ?_
  refine xZ.k_gI (me := xm168) hP_168 rfl (fun x2 => ?_)
  refine xZ.callv (κ := oR) (av := [.int x2]) (rest := []) (st' := fun x3 => [.ref x3]) (k0 := x1) (me := xm168) hP_168 rfl (Or.inl rfl) ⟨rfl, by decide⟩ rfl rfl (Nat.le_of_ble_eq_true rfl) (by decide) hP_21 (Nat.le_of_ble_eq_true rfl) (fun _ => rfl) (k_f_Hall_anyZone O f (d + 4) x1 x2 M) (fun x3 M1 => ?_)
  refine xZ.adv (me := xm168) hP_168 7 (pc' := 22) (lv' := [(8, .int (0 : Int32)), (7, .int v2), (6, .int (0 : Int32)), (5, .ref x3), (0, .ref v0), (1, .ref v1), (2, .int v2), (3, .int v3), (4, .int v4)]) (st' := []) rfl ?_
  exact xZ.sub (xsc (.tail _ (.tail _ (.tail _ (.tail _ (.head _))))) (xsc (.tail _ (.tail _ (.tail _ (.tail _ (.tail _ (.head _)))))) (xsc (.tail _ (.tail _ (.tail _ (.tail _ (.tail _ (.tail _ (.tail _ (.head _)))))))) (xsc (.tail _ (.tail _ (.tail _ (.tail _ (.tail _ (.tail _ (.tail _ (.tail _ (.head _))))))))) (xsc (.tail _ (.tail _ (.tail _ (.head _)))) (xsc (.tail _ (.tail _ (.head _))) (xsc (.tail _ (.head _)) (xsc (.head _) xsn)))))))) (show ([8, 7, 6, 5, 0, 1, 2, 3, 4] : List Nat).Nodup from by decide) (k_f_Calendarhall_countMinutes_22 O f d f v0 v1 v3 v4 x3 (0 : Int32) v2 (0 : Int32) M1)
def f_Calendarhall_minutesOf_51 (O : Nat → Option va_E) (f : Nat) (v0 : Nat) (v2 : Int32) (v3 : Int32) (v4 : Int32) (v5 : Nat) (M : xM) : Option (Int32 × xM) :=
  (isO O M v0 12).bind fun _ =>
  xcl (f_Calendarhall_countMinutes O f v0 v5 v2 v3 v4 M) fun x1 M1 =>
  some (x1, M1)
set_option maxRecDepth 20000 in
theorem k_f_Calendarhall_minutesOf_51 (O : Nat → Option va_E) (f d : Nat) (v0 : Nat) (v2 : Int32) (v3 : Int32) (v4 : Int32) (v5 : Nat) (M : xM) : xZ oI O (d + 7) 161 51 [(0, .ref v0), (2, .int v2), (3, .int v3), (4, .int v4), (5, .ref v5)] [] M (f_Calendarhall_minutesOf_51 O f v0 v2 v3 v4 v5 M) := by
  unfold f_Calendarhall_minutesOf_51
  refine xZ.adv (me := xm161) hP_161 5 (pc' := 58) (lv' := [(0, .ref v0), (2, .int v2), (3, .int v3), (4, .int v4), (5, .ref v5)]) (st' := [.int v4, .int v3, .int v2, .ref v5, .ref v0]) rfl ?_
  refine xZ.callv (κ := oI) (av := [.ref v5, .int v2, .int v3, .int v4]) (rest := []) (st' := fun x1 => [.int x1]) (k0 := v0) (me := xm161) hP_161 rfl (Or.inl rfl) ⟨rfl, by decide⟩ rfl rfl (Nat.le_of_ble_eq_true rfl) (by decide) hP_168 (Nat.le_of_ble_eq_true rfl) (fun _ => rfl) (k_f_Calendarhall_countMinutes O f (d + 1) v0 v5 v2 v3 v4 M) (fun x1 M1 => ?_)
  exact xZ.reti (me := xm161) hP_161 rfl rfl
def f_Calendarhall_minutesOf (O : Nat → Option va_E) (f : Nat) (v0 : Nat) (v1 : Int32) (v2 : Int32) (v3 : Int32) (v4 : Int32) (M : xM) : Option (Int32 × xM) :=
  (isO O M v0 12).bind fun _ =>
  xcl (f_Calendarhall_personNumbered O f v0 v1 M) fun x1 M1 =>
  xcl (f_Calendarhall_needPiece O f v2 v3 (20160 : Int32) M1) fun _ M2 =>
  xcl (f_Calendarhall_needRange O f v4 (0 : Int32) (2 : Int32) M2) fun _ M3 =>
  if v4 = (1 : Int32) then (
    f_Calendarhall_minutesOf_51 O f v0 v2 v3 v4 x1 M3
  ) else
  (gR O M3 v0 12 0).bind fun x4 =>
  (gR O M3 v0 12 4).bind fun x5 =>
  (gR O M3 v0 12 0).bind fun x6 =>
  (isO O M3 x6 4).bind fun _ =>
  xcl (f_Hall_seriesOf O f x6 ((1 : Int32) <<< (v1 &&& 31)) M3) fun x7 M4 =>
  (isO O M4 x4 4).bind fun _ =>
  xcl (f_Hall_collectOn O f x4 x5 x7 v2 v3 M4) fun _ M5 =>
  f_Calendarhall_minutesOf_51 O f v0 v2 v3 v4 x1 M5
set_option maxRecDepth 20000 in
theorem k_f_Calendarhall_minutesOf (O : Nat → Option va_E) (f d : Nat) (v0 : Nat) (v1 : Int32) (v2 : Int32) (v3 : Int32) (v4 : Int32) (M : xM) : xZ oI O (d + 7) 161 0 [(0, .ref v0), (1, .int v1), (2, .int v2), (3, .int v3), (4, .int v4)] [] M (f_Calendarhall_minutesOf O f v0 v1 v2 v3 v4 M) := by
  unfold f_Calendarhall_minutesOf
  refine xZ.adv (me := xm161) hP_161 2 (pc' := 2) (lv' := [(0, .ref v0), (1, .int v1), (2, .int v2), (3, .int v3), (4, .int v4)]) (st' := [.int v1, .ref v0]) rfl ?_
  refine xZ.callv (κ := oR) (av := [.int v1]) (rest := []) (st' := fun x1 => [.ref x1]) (k0 := v0) (me := xm161) hP_161 rfl (Or.inl rfl) ⟨rfl, by decide⟩ rfl rfl (Nat.le_of_ble_eq_true rfl) (by decide) hP_148 (Nat.le_of_ble_eq_true rfl) (fun _ => rfl) (k_f_Calendarhall_personNumbered O f (d + 5) v0 v1 M) (fun x1 M1 => ?_)
  refine xZ.adv (me := xm161) hP_161 4 (pc' := 12) (lv' := [(5, .ref x1), (0, .ref v0), (1, .int v1), (2, .int v2), (3, .int v3), (4, .int v4)]) (st' := [.int (20160 : Int32), .int v3, .int v2]) rfl ?_
  refine xZ.calls (κ := oU) (av := [.int v2, .int v3, .int (20160 : Int32)]) (rest := []) (st' := fun _ => []) (me := xm161) hP_161 rfl rfl rfl (Nat.le_of_ble_eq_true rfl) (by decide) hP_114 (Nat.le_of_ble_eq_true rfl) (fun _ => rfl) (k_f_Calendarhall_needPiece O f (d + 5) v2 v3 (20160 : Int32) M1) (fun _ M2 => ?_)
  refine xZ.adv (me := xm161) hP_161 3 (pc' := 19) (lv' := [(5, .ref x1), (0, .ref v0), (1, .int v1), (2, .int v2), (3, .int v3), (4, .int v4)]) (st' := [.int (2 : Int32), .int (0 : Int32), .int v4]) rfl ?_
  refine xZ.calls (κ := oU) (av := [.int v4, .int (0 : Int32), .int (2 : Int32)]) (rest := []) (st' := fun _ => []) (me := xm161) hP_161 rfl rfl rfl (Nat.le_of_ble_eq_true rfl) (by decide) hP_22 (Nat.le_of_ble_eq_true rfl) (fun _ => rfl) (k_f_Calendarhall_needRange O f (d + 6) v4 (0 : Int32) (2 : Int32) M2) (fun _ M3 => ?_)
  refine xZ.adv (me := xm161) hP_161 2 (pc' := 25) (lv' := [(5, .ref x1), (0, .ref v0), (1, .int v1), (2, .int v2), (3, .int v3), (4, .int v4)]) (st' := [.int (1 : Int32), .int v4]) rfl ?_
  refine xZ.ic_eq (me := xm161) hP_161 rfl (fun h1 => ?_) (fun h1 => ?_)
  · skip
    exact xZ.sub (xsc (.tail _ (.head _)) (xsc (.tail _ (.tail _ (.tail _ (.head _)))) (xsc (.tail _ (.tail _ (.tail _ (.tail _ (.head _))))) (xsc (.tail _ (.tail _ (.tail _ (.tail _ (.tail _ (.head _)))))) (xsc (.head _) xsn))))) (show ([5, 0, 1, 2, 3, 4] : List Nat).Nodup from by decide) (k_f_Calendarhall_minutesOf_51 O f d v0 v2 v3 v4 x1 M3)
  · skip
    refine xZ.adv (me := xm161) hP_161 1 (pc' := 29) (lv' := [(5, .ref x1), (0, .ref v0), (1, .int v1), (2, .int v2), (3, .int v3), (4, .int v4)]) (st' := [.ref v0]) rfl ?_
    refine xZ.k_gR (me := xm161) hP_161 rfl (fun x4 => ?_)
    refine xZ.adv (me := xm161) hP_161 1 (pc' := 33) (lv' := [(5, .ref x1), (0, .ref v0), (1, .int v1), (2, .int v2), (3, .int v3), (4, .int v4)]) (st' := [.ref v0, .ref x4]) rfl ?_
    refine xZ.k_gR (me := xm161) hP_161 rfl (fun x5 => ?_)
    refine xZ.adv (me := xm161) hP_161 1 (pc' := 37) (lv' := [(5, .ref x1), (0, .ref v0), (1, .int v1), (2, .int v2), (3, .int v3), (4, .int v4)]) (st' := [.ref v0, .ref x5, .ref x4]) rfl ?_
    refine xZ.k_gR (me := xm161) hP_161 rfl (fun x6 => ?_)
    refine xZ.adv (me := xm161) hP_161 3 (pc' := 43) (lv' := [(5, .ref x1), (0, .ref v0), (1, .int v1), (2, .int v2), (3, .int v3), (4, .int v4)]) (st' := [.int ((1 : Int32) <<< (v1 &&& 31)), .ref x6, .ref x5, .ref x4]) rfl ?_
    refine xZ.callv (κ := oI) (av := [.int ((1 : Int32) <<< (v1 &&& 31))]) (rest := [.ref x5, .ref x4]) (st' := fun x7 => [.int x7, .ref x5, .ref x4]) (k0 := x6) (me := xm161) hP_161 rfl (Or.inl rfl) ⟨rfl, by decide⟩ rfl rfl (Nat.le_of_ble_eq_true rfl) (by decide) hP_158 (Nat.le_of_ble_eq_true rfl) (fun _ => rfl) (k_f_Hall_seriesOf O f (d + 5) x6 ((1 : Int32) <<< (v1 &&& 31)) M3) (fun x7 M4 => ?_)
    refine xZ.adv (me := xm161) hP_161 2 (pc' := 48) (lv' := [(5, .ref x1), (0, .ref v0), (1, .int v1), (2, .int v2), (3, .int v3), (4, .int v4)]) (st' := [.int v3, .int v2, .int x7, .ref x5, .ref x4]) rfl ?_
    refine xZ.callv (κ := oU) (av := [.ref x5, .int x7, .int v2, .int v3]) (rest := []) (st' := fun _ => []) (k0 := x4) (me := xm161) hP_161 rfl (Or.inl rfl) ⟨rfl, by decide⟩ rfl rfl (Nat.le_of_ble_eq_true rfl) (by decide) hP_162 (Nat.le_of_ble_eq_true rfl) (fun _ => rfl) (k_f_Hall_collectOn O f (d + 0) x4 x5 x7 v2 v3 M4) (fun _ M5 => ?_)
    exact xZ.sub (xsc (.tail _ (.head _)) (xsc (.tail _ (.tail _ (.tail _ (.head _)))) (xsc (.tail _ (.tail _ (.tail _ (.tail _ (.head _))))) (xsc (.tail _ (.tail _ (.tail _ (.tail _ (.tail _ (.head _)))))) (xsc (.head _) xsn))))) (show ([5, 0, 1, 2, 3, 4] : List Nat).Nodup from by decide) (k_f_Calendarhall_minutesOf_51 O f d v0 v2 v3 v4 x1 M5)
def f_Calendarhall_busyShare (O : Nat → Option va_E) (f : Nat) (v0 : Nat) (v1 : Int32) (v2 : Int32) (v3 : Int32) (M : xM) : Option (UInt64 × xM) :=
  (isO O M v0 12).bind fun _ =>
  xcl (f_Calendarhall_personNumbered O f v0 v1 M) fun x1 M1 =>
  xcl (f_Calendarhall_needPiece O f v2 v3 (20160 : Int32) M1) fun _ M2 =>
  (gR O M2 v0 12 0).bind fun x3 =>
  (gR O M2 v0 12 4).bind fun x4 =>
  (gR O M2 v0 12 0).bind fun x5 =>
  (isO O M2 x5 4).bind fun _ =>
  xcl (f_Hall_seriesOf O f x5 ((1 : Int32) <<< (v1 &&& 31)) M2) fun x6 M3 =>
  (isO O M3 x3 4).bind fun _ =>
  xcl (f_Hall_collectOn O f x3 x4 x6 v2 v3 M3) fun _ M4 =>
  (isO O M4 v0 12).bind fun _ =>
  xcl (f_Calendarhall_countMinutes O f v0 x1 v2 v3 (1 : Int32) M4) fun x8 M5 =>
  if (1 : Int32) ≤ x8 then (
    (isO O M5 v0 12).bind fun _ =>
    xcl (f_Calendarhall_countMinutes O f v0 x1 v2 v3 (2 : Int32) M5) fun x9 M6 =>
    if FP.ddiv (FP.i2d x9) (FP.i2d x8) &&& 0x7fffffffffffffff ≤ 0x7ff0000000000000 then (xlet (FP.ddiv (FP.i2d x9) (FP.i2d x8)) fun x10 =>
      some (x10, M6)
    ) else none
  ) else
  some (FP.dconst0, M5)
set_option maxRecDepth 20000 in
theorem k_f_Calendarhall_busyShare (O : Nat → Option va_E) (f d : Nat) (v0 : Nat) (v1 : Int32) (v2 : Int32) (v3 : Int32) (M : xM) : xZ oD O (d + 7) 180 0 [(0, .ref v0), (1, .int v1), (2, .int v2), (3, .int v3)] [] M (f_Calendarhall_busyShare O f v0 v1 v2 v3 M) := by
  unfold f_Calendarhall_busyShare
  refine xZ.adv (me := xm180) hP_180 2 (pc' := 2) (lv' := [(0, .ref v0), (1, .int v1), (2, .int v2), (3, .int v3)]) (st' := [.int v1, .ref v0]) rfl ?_
  refine xZ.callv (κ := oR) (av := [.int v1]) (rest := []) (st' := fun x1 => [.ref x1]) (k0 := v0) (me := xm180) hP_180 rfl (Or.inl rfl) ⟨rfl, by decide⟩ rfl rfl (Nat.le_of_ble_eq_true rfl) (by decide) hP_148 (Nat.le_of_ble_eq_true rfl) (fun _ => rfl) (k_f_Calendarhall_personNumbered O f (d + 5) v0 v1 M) (fun x1 M1 => ?_)
  refine xZ.adv (me := xm180) hP_180 4 (pc' := 12) (lv' := [(4, .ref x1), (0, .ref v0), (1, .int v1), (2, .int v2), (3, .int v3)]) (st' := [.int (20160 : Int32), .int v3, .int v2]) rfl ?_
  refine xZ.calls (κ := oU) (av := [.int v2, .int v3, .int (20160 : Int32)]) (rest := []) (st' := fun _ => []) (me := xm180) hP_180 rfl rfl rfl (Nat.le_of_ble_eq_true rfl) (by decide) hP_114 (Nat.le_of_ble_eq_true rfl) (fun _ => rfl) (k_f_Calendarhall_needPiece O f (d + 5) v2 v3 (20160 : Int32) M1) (fun _ M2 => ?_)
  refine xZ.adv (me := xm180) hP_180 1 (pc' := 16) (lv' := [(4, .ref x1), (0, .ref v0), (1, .int v1), (2, .int v2), (3, .int v3)]) (st' := [.ref v0]) rfl ?_
  refine xZ.k_gR (me := xm180) hP_180 rfl (fun x3 => ?_)
  refine xZ.adv (me := xm180) hP_180 1 (pc' := 20) (lv' := [(4, .ref x1), (0, .ref v0), (1, .int v1), (2, .int v2), (3, .int v3)]) (st' := [.ref v0, .ref x3]) rfl ?_
  refine xZ.k_gR (me := xm180) hP_180 rfl (fun x4 => ?_)
  refine xZ.adv (me := xm180) hP_180 1 (pc' := 24) (lv' := [(4, .ref x1), (0, .ref v0), (1, .int v1), (2, .int v2), (3, .int v3)]) (st' := [.ref v0, .ref x4, .ref x3]) rfl ?_
  refine xZ.k_gR (me := xm180) hP_180 rfl (fun x5 => ?_)
  refine xZ.adv (me := xm180) hP_180 3 (pc' := 30) (lv' := [(4, .ref x1), (0, .ref v0), (1, .int v1), (2, .int v2), (3, .int v3)]) (st' := [.int ((1 : Int32) <<< (v1 &&& 31)), .ref x5, .ref x4, .ref x3]) rfl ?_
  refine xZ.callv (κ := oI) (av := [.int ((1 : Int32) <<< (v1 &&& 31))]) (rest := [.ref x4, .ref x3]) (st' := fun x6 => [.int x6, .ref x4, .ref x3]) (k0 := x5) (me := xm180) hP_180 rfl (Or.inl rfl) ⟨rfl, by decide⟩ rfl rfl (Nat.le_of_ble_eq_true rfl) (by decide) hP_158 (Nat.le_of_ble_eq_true rfl) (fun _ => rfl) (k_f_Hall_seriesOf O f (d + 5) x5 ((1 : Int32) <<< (v1 &&& 31)) M2) (fun x6 M3 => ?_)
  refine xZ.adv (me := xm180) hP_180 2 (pc' := 35) (lv' := [(4, .ref x1), (0, .ref v0), (1, .int v1), (2, .int v2), (3, .int v3)]) (st' := [.int v3, .int v2, .int x6, .ref x4, .ref x3]) rfl ?_
  refine xZ.callv (κ := oU) (av := [.ref x4, .int x6, .int v2, .int v3]) (rest := []) (st' := fun _ => []) (k0 := x3) (me := xm180) hP_180 rfl (Or.inl rfl) ⟨rfl, by decide⟩ rfl rfl (Nat.le_of_ble_eq_true rfl) (by decide) hP_162 (Nat.le_of_ble_eq_true rfl) (fun _ => rfl) (k_f_Hall_collectOn O f (d + 0) x3 x4 x6 v2 v3 M3) (fun _ M4 => ?_)
  refine xZ.adv (me := xm180) hP_180 5 (pc' := 44) (lv' := [(4, .ref x1), (0, .ref v0), (1, .int v1), (2, .int v2), (3, .int v3)]) (st' := [.int (1 : Int32), .int v3, .int v2, .ref x1, .ref v0]) rfl ?_
  refine xZ.callv (κ := oI) (av := [.ref x1, .int v2, .int v3, .int (1 : Int32)]) (rest := []) (st' := fun x8 => [.int x8]) (k0 := v0) (me := xm180) hP_180 rfl (Or.inl rfl) ⟨rfl, by decide⟩ rfl rfl (Nat.le_of_ble_eq_true rfl) (by decide) hP_168 (Nat.le_of_ble_eq_true rfl) (fun _ => rfl) (k_f_Calendarhall_countMinutes O f (d + 1) v0 x1 v2 v3 (1 : Int32) M4) (fun x8 M5 => ?_)
  refine xZ.adv (me := xm180) hP_180 3 (pc' := 52) (lv' := [(5, .int x8), (4, .ref x1), (0, .ref v0), (1, .int v1), (2, .int v2), (3, .int v3)]) (st' := [.int (1 : Int32), .int x8]) rfl ?_
  refine xZ.ic_ge (me := xm180) hP_180 rfl (fun h1 => ?_) (fun h1 => ?_)
  · skip
    refine xZ.adv (me := xm180) hP_180 5 (pc' := 63) (lv' := [(5, .int x8), (4, .ref x1), (0, .ref v0), (1, .int v1), (2, .int v2), (3, .int v3)]) (st' := [.int (2 : Int32), .int v3, .int v2, .ref x1, .ref v0]) rfl ?_
    refine xZ.callv (κ := oI) (av := [.ref x1, .int v2, .int v3, .int (2 : Int32)]) (rest := []) (st' := fun x9 => [.int x9]) (k0 := v0) (me := xm180) hP_180 rfl (Or.inl rfl) ⟨rfl, by decide⟩ rfl rfl (Nat.le_of_ble_eq_true rfl) (by decide) hP_168 (Nat.le_of_ble_eq_true rfl) (fun _ => rfl) (k_f_Calendarhall_countMinutes O f (d + 1) v0 x1 v2 v3 (2 : Int32) M5) (fun x9 M6 => ?_)
    refine xZ.adv (me := xm180) hP_180 3 (pc' := 70) (lv' := [(5, .int x8), (4, .ref x1), (0, .ref v0), (1, .int v1), (2, .int v2), (3, .int v3)]) (st' := [.double (FP.i2d x8), .double (FP.i2d x9)]) rfl ?_
    refine xZ.ddiv (me := xm180) hP_180 rfl (fun x10 => ?_)
    exact xZ.retd (me := xm180) hP_180 rfl rfl
  · skip
    refine xZ.adv (me := xm180) hP_180 1 (pc' := 56) (lv' := [(5, .int x8), (4, .ref x1), (0, .ref v0), (1, .int v1), (2, .int v2), (3, .int v3)]) (st' := [.double FP.dconst0]) rfl ?_
    exact xZ.retd (me := xm180) hP_180 rfl rfl
