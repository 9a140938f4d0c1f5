/-! ===== texts ===== -/
def f_Calendarhall_setRoom (O : Nat → Option va_E) (f : Nat) (v0 : Nat) (v1 : Int32) (v2 : Int32) (M : xM) : Option (Int32 × xM) :=
  if v1 < 0 then (
    none
  ) else
  (gR O M v0 12 0).bind fun x1 =>
  (gR O M x1 4 2).bind fun x2 =>
  (aN O M x2).bind fun x3 =>
  if v1 < x3 then (
    xcl (f_Calendarhall_needRange O f v2 (0 : Int32) (9 : Int32) M) fun _ M1 =>
    (gR O M1 v0 12 0).bind fun x5 =>
    (gR O M1 x5 4 2).bind fun x6 =>
    (aI O M1 x6 v1).bind fun x7 =>
    (isO O M1 v0 12).bind fun _ =>
    xcl (f_Calendarhall_saveForUndo O f v0 M1) fun _ M2 =>
    (gR O M2 v0 12 0).bind fun x9 =>
    (gR O M2 x9 4 2).bind fun x10 =>
    (wI M2 x10 v1 v2).bind fun M3 =>
    some (x7, M3)
  ) else
  none
set_option maxRecDepth 20000 in
theorem k_f_Calendarhall_setRoom (O : Nat → Option va_E) (f d : Nat) (v0 : Nat) (v1 : Int32) (v2 : Int32) (M : xM) : xZ oI O (d + 5) 187 0 [(0, .ref v0), (1, .int v1), (2, .int v2)] [] M (f_Calendarhall_setRoom O f v0 v1 v2 M) := by
  unfold f_Calendarhall_setRoom
  refine xZ.adv (me := xm187) hP_187 1 (pc' := 1) (lv' := [(0, .ref v0), (1, .int v1), (2, .int v2)]) (st' := [.int v1]) rfl ?_
  refine xZ.if_lt (me := xm187) hP_187 rfl (fun h1 => ?_) (fun h1 => ?_)
  · skip
    exact xZ.no
  · skip
    refine xZ.adv (me := xm187) hP_187 2 (pc' := 6) (lv' := [(0, .ref v0), (1, .int v1), (2, .int v2)]) (st' := [.ref v0, .int v1]) rfl ?_
    refine xZ.k_gR (me := xm187) hP_187 rfl (fun x1 => ?_)
    refine xZ.k_gR (me := xm187) hP_187 rfl (fun x2 => ?_)
    refine xZ.k_aN (me := xm187) hP_187 rfl (fun x3 => ?_)
    refine xZ.ic_lt (me := xm187) hP_187 rfl (fun h2 => ?_) (fun h2 => ?_)
    · skip
      refine xZ.adv (me := xm187) hP_187 3 (pc' := 28) (lv' := [(0, .ref v0), (1, .int v1), (2, .int v2)]) (st' := [.int (9 : Int32), .int (0 : Int32), .int v2]) rfl ?_
      refine xZ.calls (κ := oU) (av := [.int v2, .int (0 : Int32), .int (9 : Int32)]) (rest := []) (st' := fun _ => []) (me := xm187) hP_187 rfl rfl rfl (Nat.le_of_ble_eq_true rfl) (by decide) hP_22 (Nat.le_of_ble_eq_true rfl) (fun _ => rfl) (k_f_Calendarhall_needRange O f (d + 4) v2 (0 : Int32) (9 : Int32) M) (fun _ M1 => ?_)
      refine xZ.adv (me := xm187) hP_187 1 (pc' := 32) (lv' := [(0, .ref v0), (1, .int v1), (2, .int v2)]) (st' := [.ref v0]) rfl ?_
      refine xZ.k_gR (me := xm187) hP_187 rfl (fun x5 => ?_)
      refine xZ.k_gR (me := xm187) hP_187 rfl (fun x6 => ?_)
      refine xZ.adv (me := xm187) hP_187 1 (pc' := 39) (lv' := [(0, .ref v0), (1, .int v1), (2, .int v2)]) (st' := [.int v1, .ref x6]) rfl ?_
      refine xZ.k_aI (me := xm187) hP_187 rfl (fun x7 => ?_)
      refine xZ.adv (me := xm187) hP_187 2 (pc' := 42) (lv' := [(3, .int x7), (0, .ref v0), (1, .int v1), (2, .int v2)]) (st' := [.ref v0]) rfl ?_
      refine xZ.callv (κ := oU) (av := []) (rest := []) (st' := fun _ => []) (k0 := v0) (me := xm187) hP_187 rfl (Or.inl rfl) ⟨rfl, by decide⟩ rfl rfl (Nat.le_of_ble_eq_true rfl) (by decide) hP_23 (Nat.le_of_ble_eq_true rfl) (fun _ => rfl) (k_f_Calendarhall_saveForUndo O f (d + 0) v0 M1) (fun _ M2 => ?_)
      refine xZ.adv (me := xm187) hP_187 1 (pc' := 46) (lv' := [(3, .int x7), (0, .ref v0), (1, .int v1), (2, .int v2)]) (st' := [.ref v0]) rfl ?_
      refine xZ.k_gR (me := xm187) hP_187 rfl (fun x9 => ?_)
      refine xZ.k_gR (me := xm187) hP_187 rfl (fun x10 => ?_)
      refine xZ.adv (me := xm187) hP_187 2 (pc' := 54) (lv' := [(3, .int x7), (0, .ref v0), (1, .int v1), (2, .int v2)]) (st' := [.int v2, .int v1, .ref x10]) rfl ?_
      refine xZ.k_wI (me := xm187) hP_187 rfl (fun M3 => ?_)
      refine xZ.adv (me := xm187) hP_187 1 (pc' := 56) (lv' := [(3, .int x7), (0, .ref v0), (1, .int v1), (2, .int v2)]) (st' := [.int x7]) rfl ?_
      exact xZ.reti (me := xm187) hP_187 rfl rfl
    · skip
      exact xZ.no
def f_Hall_seriesWithRoom_4 (O : Nat → Option va_E) (f : Nat) : Nat → Nat → Int32 → Int32 → xM → Option (Int32 × xM)
  | 0, _, _, _, _ => none
  | n + 1, v0, v1, v2, M =>
    (gR O M v0 4 3).bind fun x1 =>
    (aN O M x1).bind fun x2 =>
    if x2 ≤ v2 then (
      some (v1, M)
    ) else
    (gR O M v0 4 3).bind fun x3 =>
    (aR O M x3 v2).bind fun x4 =>
    (gI O M x4 10 0).bind fun x5 =>
    if x5 = 0 then (
      f_Hall_seriesWithRoom_4 O f n v0 v1 (v2 + (1 : Int32)) M
    ) else
    (gR O M v0 4 3).bind fun x6 =>
    (aR O M x6 v2).bind fun x7 =>
    (gI O M x7 10 5).bind fun x8 =>
    if x8 = 0 then (
      f_Hall_seriesWithRoom_4 O f n v0 v1 (v2 + (1 : Int32)) M
    ) else
    xlet (v1 ||| ((1 : Int32) <<< (v2 &&& 31))) fun x9 =>
    f_Hall_seriesWithRoom_4 O f n v0 x9 (v2 + (1 : Int32)) M
set_option maxRecDepth 20000 in
theorem k_f_Hall_seriesWithRoom_4 (O : Nat → Option va_E) (f d : Nat) : ∀ (n : Nat) (v0 : Nat) (v1 : Int32) (v2 : Int32) (M : xM), xZ oI O (d + 0) 189 4 [(0, .ref v0), (1, .int v1), (2, .int v2)] [] M (f_Hall_seriesWithRoom_4 O f n v0 v1 v2 M) := by
  intro n
  induction n with
  | zero =>
    intro v0 v1 v2 M
    exact xZ.no
  | succ n ih =>
    intro v0 v1 v2 M
    unfold f_Hall_seriesWithRoom_4
    refine xZ.adv (me := xm189) hP_189 2 (pc' := 6) (lv' := [(0, .ref v0), (1, .int v1), (2, .int v2)]) (st' := [.ref v0, .int v2]) rfl ?_
    refine xZ.k_gR (me := xm189) hP_189 rfl (fun x1 => ?_)
    refine xZ.k_aN (me := xm189) hP_189 rfl (fun x2 => ?_)
    refine xZ.ic_ge (me := xm189) hP_189 rfl (fun h1 => ?_) (fun h1 => ?_)
    · skip
      refine xZ.adv (me := xm189) hP_189 1 (pc' := 50) (lv' := [(0, .ref v0), (1, .int v1), (2, .int v2)]) (st' := [.int v1]) rfl ?_
      exact xZ.reti (me := xm189) hP_189 rfl rfl
    · skip
      refine xZ.adv (me := xm189) hP_189 1 (pc' := 14) (lv' := [(0, .ref v0), (1, .int v1), (2, .int v2)]) (st' := [.ref v0]) rfl ?_
      refine xZ.k_gR (me := xm189) hP_189 rfl (fun x3 => ?_)
      refine xZ.adv (me := xm189) hP_189 1 (pc' := 18) (lv' := [(0, .ref v0), (1, .int v1), (2, .int v2)]) (st' := [.int v2, .ref x3]) rfl ?_
      refine xZ.k_aR (me := xm189) hP_189 rfl (fun x4 => ?_)
      refine xZ.k_gI (me := xm189) hP_189 rfl (fun x5 => ?_)
      refine xZ.if_eq (me := xm189) hP_189 rfl (fun h2 => ?_) (fun h2 => ?_)
      · skip
        refine xZ.adv (me := xm189) hP_189 2 (pc' := 4) (lv' := [(2, .int (v2 + (1 : Int32))), (0, .ref v0), (1, .int v1)]) (st' := []) rfl ?_
        exact xZ.sub (xsc (.tail _ (.head _)) (xsc (.tail _ (.tail _ (.head _))) (xsc (.head _) xsn))) (show ([2, 0, 1] : List Nat).Nodup from by decide) (ih v0 v1 (v2 + (1 : Int32)) M)
      · skip
        refine xZ.adv (me := xm189) hP_189 1 (pc' := 26) (lv' := [(0, .ref v0), (1, .int v1), (2, .int v2)]) (st' := [.ref v0]) rfl ?_
        refine xZ.k_gR (me := xm189) hP_189 rfl (fun x6 => ?_)
        refine xZ.adv (me := xm189) hP_189 1 (pc' := 30) (lv' := [(0, .ref v0), (1, .int v1), (2, .int v2)]) (st' := [.int v2, .ref x6]) rfl ?_
        refine xZ.k_aR (me := xm189) hP_189 rfl (fun x7 => ?_)
        refine xZ.k_gI (me := xm189) hP_189 rfl (fun x8 => ?_)
        refine xZ.if_eq (me := xm189) hP_189 rfl (fun h3 => ?_) (fun h3 => ?_)
        · skip
          refine xZ.adv (me := xm189) hP_189 2 (pc' := 4) (lv' := [(2, .int (v2 + (1 : Int32))), (0, .ref v0), (1, .int v1)]) (st' := []) rfl ?_
          exact xZ.sub (xsc (.tail _ (.head _)) (xsc (.tail _ (.tail _ (.head _))) (xsc (.head _) xsn))) (show ([2, 0, 1] : List Nat).Nodup from by decide) (ih v0 v1 (v2 + (1 : Int32)) M)
        · skip
          refine xZ.adv (me := xm189) hP_189 6 (pc' := 43) (lv' := [(1, .int (v1 ||| ((1 : Int32) <<< (v2 &&& 31)))), (0, .ref v0), (2, .int v2)]) (st' := []) rfl ?_
          refine xZ.letI (v := (v1 ||| ((1 : Int32) <<< (v2 &&& 31)))) (lvf := fun x9 => [(1, .int x9), (0, .ref v0), (2, .int v2)]) (stf := fun x9 => []) ?_
          intro x9
          refine xZ.adv (me := xm189) hP_189 2 (pc' := 4) (lv' := [(2, .int (v2 + (1 : Int32))), (1, .int x9), (0, .ref v0)]) (st' := []) rfl ?_
          exact xZ.sub (xsc (.tail _ (.tail _ (.head _))) (xsc (.tail _ (.head _)) (xsc (.head _) xsn))) (show ([2, 1, 0] : List Nat).Nodup from by decide) (ih v0 x9 (v2 + (1 : Int32)) M)
def f_Hall_seriesWithRoom (O : Nat → Option va_E) (f : Nat) (v0 : Nat) (M : xM) : Option (Int32 × xM) :=
  f_Hall_seriesWithRoom_4 O f f v0 (0 : Int32) (0 : Int32) M
set_option maxRecDepth 20000 in
theorem k_f_Hall_seriesWithRoom (O : Nat → Option va_E) (f d : Nat) (v0 : Nat) (M : xM) : xZ oI O (d + 0) 189 0 [(0, .ref v0)] [] M (f_Hall_seriesWithRoom O f v0 M) := by
  unfold f_Hall_seriesWithRoom
  refine xZ.adv (me := xm189) hP_189 4 (pc' := 4) (lv' := [(2, .int (0 : Int32)), (1, .int (0 : Int32)), (0, .ref v0)]) (st' := []) rfl ?_
  exact xZ.sub (xsc (.tail _ (.tail _ (.head _))) (xsc (.tail _ (.head _)) (xsc (.head _) xsn))) (show ([2, 1, 0] : List Nat).Nodup from by decide) (k_f_Hall_seriesWithRoom_4 O f d f v0 (0 : Int32) (0 : Int32) M)
def f_Hall_collect_7 (O : Nat → Option va_E) (f : Nat) : Nat → Nat → Nat → Int32 → Int32 → Int32 → Int32 → xM → Option (Unit × xM)
  | 0, _, _, _, _, _, _, _ => none
  | n + 1, v0, v1, v2, v3, v4, v5, M =>
    (gR O M v0 4 3).bind fun x1 =>
    (aN O M x1).bind fun x2 =>
    if x2 ≤ v5 then (
      some ((), M)
    ) else
    (gR O M v0 4 3).bind fun x3 =>
    (aR O M x3 v5).bind fun x4 =>
    (gI O M x4 10 0).bind fun x5 =>
    if x5 = 0 then (
      f_Hall_collect_7 O f n v0 v1 v2 v3 v4 (v5 + (1 : Int32)) M
    ) else
    if ((v2 >>> (v5 &&& 31)) &&& (1 : Int32)) = (1 : Int32) then (
      (gR O M v0 4 3).bind fun x6 =>
      (aR O M x6 v5).bind fun x7 =>
      (gR O M v0 4 3).bind fun x8 =>
      (aR O M x8 v5).bind fun x9 =>
      (isO O M v0 4).bind fun _ =>
      xcl (f_Hall_zoneOf O f v0 x9 M) fun x10 M1 =>
      (isO O M1 x7 10).bind fun _ =>
      xcl (f_Series_addRows O f x7 v1 v5 (0 : Int32) x10 v3 v4 M1) fun _ M2 =>
      f_Hall_collect_7 O f n v0 v1 v2 v3 v4 (v5 + (1 : Int32)) M2
    ) else
    f_Hall_collect_7 O f n v0 v1 v2 v3 v4 (v5 + (1 : Int32)) M
set_option maxRecDepth 20000 in
theorem k_f_Hall_collect_7 (O : Nat → Option va_E) (f d : Nat) : ∀ (n : Nat) (v0 : Nat) (v1 : Nat) (v2 : Int32) (v3 : Int32) (v4 : Int32) (v5 : Int32) (M : xM), xZ oU O (d + 6) 190 7 [(0, .ref v0), (1, .ref v1), (2, .int v2), (3, .int v3), (4, .int v4), (5, .int v5)] [] M (f_Hall_collect_7 O f n v0 v1 v2 v3 v4 v5 M) := by
  intro n
  induction n with
  | zero =>
    intro v0 v1 v2 v3 v4 v5 M
    exact xZ.no
  | succ n ih =>
    intro v0 v1 v2 v3 v4 v5 M
    unfold f_Hall_collect_7
    refine xZ.adv (me := xm190) hP_190 2 (pc' := 10) (lv' := [(0, .ref v0), (1, .ref v1), (2, .int v2), (3, .int v3), (4, .int v4), (5, .int v5)]) (st' := [.ref v0, .int v5]) rfl ?_
    refine xZ.k_gR (me := xm190) hP_190 rfl (fun x1 => ?_)
    refine xZ.k_aN (me := xm190) hP_190 rfl (fun x2 => ?_)
    refine xZ.ic_ge (me := xm190) hP_190 rfl (fun h1 => ?_) (fun h1 => ?_)
    · skip
      exact xZ.retu (me := xm190) hP_190 rfl rfl
    · skip
      refine xZ.adv (me := xm190) hP_190 1 (pc' := 18) (lv' := [(0, .ref v0), (1, .ref v1), (2, .int v2), (3, .int v3), (4, .int v4), (5, .int v5)]) (st' := [.ref v0]) rfl ?_
      refine xZ.k_gR (me := xm190) hP_190 rfl (fun x3 => ?_)
      refine xZ.adv (me := xm190) hP_190 1 (pc' := 23) (lv' := [(0, .ref v0), (1, .ref v1), (2, .int v2), (3, .int v3), (4, .int v4), (5, .int v5)]) (st' := [.int v5, .ref x3]) rfl ?_
      refine xZ.k_aR (me := xm190) hP_190 rfl (fun x4 => ?_)
      refine xZ.k_gI (me := xm190) hP_190 rfl (fun x5 => ?_)
      refine xZ.if_eq (me := xm190) hP_190 rfl (fun h2 => ?_) (fun h2 => ?_)
      · skip
        refine xZ.adv (me := xm190) hP_190 2 (pc' := 7) (lv' := [(5, .int (v5 + (1 : Int32))), (0, .ref v0), (1, .ref v1), (2, .int v2), (3, .int v3), (4, .int v4)]) (st' := []) rfl ?_
        exact xZ.sub (xsc (.tail _ (.head _)) (xsc (.tail _ (.tail _ (.head _))) (xsc (.tail _ (.tail _ (.tail _ (.head _)))) (xsc (.tail _ (.tail _ (.tail _ (.tail _ (.head _))))) (xsc (.tail _ (.tail _ (.tail _ (.tail _ (.tail _ (.head _)))))) (xsc (.head _) xsn)))))) (show ([5, 0, 1, 2, 3, 4] : List Nat).Nodup from by decide) (ih v0 v1 v2 v3 v4 (v5 + (1 : Int32)) M)
      · skip
        refine xZ.adv (me := xm190) hP_190 6 (pc' := 37) (lv' := [(0, .ref v0), (1, .ref v1), (2, .int v2), (3, .int v3), (4, .int v4), (5, .int v5)]) (st' := [.int (1 : Int32), .int ((v2 >>> (v5 &&& 31)) &&& (1 : Int32))]) rfl ?_
        refine xZ.ic_ne (me := xm190) hP_190 rfl (fun h3 => ?_) (fun h3 => ?_)
        · skip
          refine xZ.adv (me := xm190) hP_190 1 (pc' := 41) (lv' := [(0, .ref v0), (1, .ref v1), (2, .int v2), (3, .int v3), (4, .int v4), (5, .int v5)]) (st' := [.ref v0]) rfl ?_
          refine xZ.k_gR (me := xm190) hP_190 rfl (fun x6 => ?_)
          refine xZ.adv (me := xm190) hP_190 1 (pc' := 46) (lv' := [(0, .ref v0), (1, .ref v1), (2, .int v2), (3, .int v3), (4, .int v4), (5, .int v5)]) (st' := [.int v5, .ref x6]) rfl ?_
          refine xZ.k_aR (me := xm190) hP_190 rfl (fun x7 => ?_)
          refine xZ.adv (me := xm190) hP_190 5 (pc' := 53) (lv' := [(0, .ref v0), (1, .ref v1), (2, .int v2), (3, .int v3), (4, .int v4), (5, .int v5)]) (st' := [.ref v0, .ref v0, .int (0 : Int32), .int v5, .ref v1, .ref x7]) rfl ?_
          refine xZ.k_gR (me := xm190) hP_190 rfl (fun x8 => ?_)
          refine xZ.adv (me := xm190) hP_190 1 (pc' := 58) (lv' := [(0, .ref v0), (1, .ref v1), (2, .int v2), (3, .int v3), (4, .int v4), (5, .int v5)]) (st' := [.int v5, .ref x8, .ref v0, .int (0 : Int32), .int v5, .ref v1, .ref x7]) rfl ?_
          refine xZ.k_aR (me := xm190) hP_190 rfl (fun x9 => ?_)
          refine xZ.callv (κ := oR) (av := [.ref x9]) (rest := [.int (0 : Int32), .int v5, .ref v1, .ref x7]) (st' := fun x10 => [.ref x10, .int (0 : Int32), .int v5, .ref v1, .ref x7]) (k0 := v0) (me := xm190) hP_190 rfl (Or.inl rfl) ⟨rfl, by decide⟩ rfl rfl (Nat.le_of_ble_eq_true rfl) (by decide) hP_102 (Nat.le_of_ble_eq_true rfl) (fun _ => rfl) (k_f_Hall_zoneOf O f (d + 4) v0 x9 M) (fun x10 M1 => ?_)
          refine xZ.adv (me := xm190) hP_190 2 (pc' := 65) (lv' := [(0, .ref v0), (1, .ref v1), (2, .int v2), (3, .int v3), (4, .int v4), (5, .int v5)]) (st' := [.int v4, .int v3, .ref x10, .int (0 : Int32), .int v5, .ref v1, .ref x7]) rfl ?_
          refine xZ.callv (κ := oU) (av := [.ref v1, .int v5, .int (0 : Int32), .ref x10, .int v3, .int v4]) (rest := []) (st' := fun _ => []) (k0 := x7) (me := xm190) hP_190 rfl (Or.inl rfl) ⟨rfl, by decide⟩ rfl rfl (Nat.le_of_ble_eq_true rfl) (by decide) hP_164 (Nat.le_of_ble_eq_true rfl) (fun _ => rfl) (k_f_Series_addRows O f (d + 0) x7 v1 v5 (0 : Int32) x10 v3 v4 M1) (fun _ M2 => ?_)
          refine xZ.adv (me := xm190) hP_190 2 (pc' := 7) (lv' := [(5, .int (v5 + (1 : Int32))), (0, .ref v0), (1, .ref v1), (2, .int v2), (3, .int v3), (4, .int v4)]) (st' := []) rfl ?_
          exact xZ.sub (xsc (.tail _ (.head _)) (xsc (.tail _ (.tail _ (.head _))) (xsc (.tail _ (.tail _ (.tail _ (.head _)))) (xsc (.tail _ (.tail _ (.tail _ (.tail _ (.head _))))) (xsc (.tail _ (.tail _ (.tail _ (.tail _ (.tail _ (.head _)))))) (xsc (.head _) xsn)))))) (show ([5, 0, 1, 2, 3, 4] : List Nat).Nodup from by decide) (ih v0 v1 v2 v3 v4 (v5 + (1 : Int32)) M2)
        · skip
          refine xZ.adv (me := xm190) hP_190 2 (pc' := 7) (lv' := [(5, .int (v5 + (1 : Int32))), (0, .ref v0), (1, .ref v1), (2, .int v2), (3, .int v3), (4, .int v4)]) (st' := []) rfl ?_
          exact xZ.sub (xsc (.tail _ (.head _)) (xsc (.tail _ (.tail _ (.head _))) (xsc (.tail _ (.tail _ (.tail _ (.head _)))) (xsc (.tail _ (.tail _ (.tail _ (.tail _ (.head _))))) (xsc (.tail _ (.tail _ (.tail _ (.tail _ (.tail _ (.head _)))))) (xsc (.head _) xsn)))))) (show ([5, 0, 1, 2, 3, 4] : List Nat).Nodup from by decide) (ih v0 v1 v2 v3 v4 (v5 + (1 : Int32)) M)
def f_Hall_collect (O : Nat → Option va_E) (f : Nat) (v0 : Nat) (v1 : Nat) (v2 : Int32) (v3 : Int32) (v4 : Int32) (M : xM) : Option (Unit × xM) :=
  (isO O M v1 2).bind fun _ =>
  xcl (f_Dates_clear O f v1 M) fun _ M1 =>
  f_Hall_collect_7 O f f v0 v1 v2 v3 v4 (0 : Int32) M1
set_option maxRecDepth 20000 in
theorem k_f_Hall_collect (O : Nat → Option va_E) (f d : Nat) (v0 : Nat) (v1 : Nat) (v2 : Int32) (v3 : Int32) (v4 : Int32) (M : xM) : xZ oU O (d + 6) 190 0 [(0, .ref v0), (1, .ref v1), (2, .int v2), (3, .int v3), (4, .int v4)] [] M (f_Hall_collect O f v0 v1 v2 v3 v4 M) := by
  unfold f_Hall_collect
  refine xZ.adv (me := xm190) hP_190 1 (pc' := 1) (lv' := [(0, .ref v0), (1, .ref v1), (2, .int v2), (3, .int v3), (4, .int v4)]) (st' := [.ref v1]) rfl ?_
  refine xZ.callv (κ := oU) (av := []) (rest := []) (st' := fun _ => []) (k0 := v1) (me := xm190) hP_190 rfl (Or.inl rfl) ⟨rfl, by decide⟩ rfl rfl (Nat.le_of_ble_eq_true rfl) (by decide) hP_163 (Nat.le_of_ble_eq_true rfl) (fun _ => rfl) (k_f_Dates_clear O f (d + 5) v1 M) (fun _ M1 => ?_)
  refine xZ.adv (me := xm190) hP_190 2 (pc' := 7) (lv' := [(5, .int (0 : Int32)), (0, .ref v0), (1, .ref v1), (2, .int v2), (3, .int v3), (4, .int v4)]) (st' := []) rfl ?_
  exact xZ.sub (xsc (.tail _ (.head _)) (xsc (.tail _ (.tail _ (.head _))) (xsc (.tail _ (.tail _ (.tail _ (.head _)))) (xsc (.tail _ (.tail _ (.tail _ (.tail _ (.head _))))) (xsc (.tail _ (.tail _ (.tail _ (.tail _ (.tail _ (.head _)))))) (xsc (.head _) xsn)))))) (show ([5, 0, 1, 2, 3, 4] : List Nat).Nodup from by decide) (k_f_Hall_collect_7 O f d f v0 v1 v2 v3 v4 (0 : Int32) M1)
def f_Meetings_takeRoom_2 (O : Nat → Option va_E) (f : Nat) : Nat → Nat → Int32 → Int32 → Int32 → xM → Option (Int32 × xM)
  | 0, _, _, _, _, _ => none
  | n + 1, v0, v1, v2, v3, M =>
    (gR O M v0 5 4).bind fun x1 =>
    (aN O M x1).bind fun x2 =>
    if x2 ≤ v3 then (
      some ((-1 : Int32), M)
    ) else
    (gR O M v0 5 4).bind fun x3 =>
    (aI O M x3 v3).bind fun x4 =>
    if v1 < x4 then (
      f_Meetings_takeRoom_2 O f n v0 v1 v2 (v3 + (1 : Int32)) M
    ) else
    (gR O M v0 5 4).bind fun x5 =>
    (wI M x5 v3 v2).bind fun M1 =>
    some (v3, M1)
set_option maxRecDepth 20000 in
theorem k_f_Meetings_takeRoom_2 (O : Nat → Option va_E) (f d : Nat) : ∀ (n : Nat) (v0 : Nat) (v1 : Int32) (v2 : Int32) (v3 : Int32) (M : xM), xZ oI O (d + 0) 192 2 [(0, .ref v0), (1, .int v1), (2, .int v2), (3, .int v3)] [] M (f_Meetings_takeRoom_2 O f n v0 v1 v2 v3 M) := by
  intro n
  induction n with
  | zero =>
    intro v0 v1 v2 v3 M
    exact xZ.no
  | succ n ih =>
    intro v0 v1 v2 v3 M
    unfold f_Meetings_takeRoom_2
    refine xZ.adv (me := xm192) hP_192 2 (pc' := 4) (lv' := [(0, .ref v0), (1, .int v1), (2, .int v2), (3, .int v3)]) (st' := [.ref v0, .int v3]) rfl ?_
    refine xZ.k_gR (me := xm192) hP_192 rfl (fun x1 => ?_)
    refine xZ.k_aN (me := xm192) hP_192 rfl (fun x2 => ?_)
    refine xZ.ic_ge (me := xm192) hP_192 rfl (fun h1 => ?_) (fun h1 => ?_)
    · skip
      refine xZ.adv (me := xm192) hP_192 1 (pc' := 37) (lv' := [(0, .ref v0), (1, .int v1), (2, .int v2), (3, .int v3)]) (st' := [.int (-1 : Int32)]) rfl ?_
      exact xZ.reti (me := xm192) hP_192 rfl rfl
    · skip
      refine xZ.adv (me := xm192) hP_192 1 (pc' := 12) (lv' := [(0, .ref v0), (1, .int v1), (2, .int v2), (3, .int v3)]) (st' := [.ref v0]) rfl ?_
      refine xZ.k_gR (me := xm192) hP_192 rfl (fun x3 => ?_)
      refine xZ.adv (me := xm192) hP_192 1 (pc' := 16) (lv' := [(0, .ref v0), (1, .int v1), (2, .int v2), (3, .int v3)]) (st' := [.int v3, .ref x3]) rfl ?_
      refine xZ.k_aI (me := xm192) hP_192 rfl (fun x4 => ?_)
      refine xZ.adv (me := xm192) hP_192 1 (pc' := 18) (lv' := [(0, .ref v0), (1, .int v1), (2, .int v2), (3, .int v3)]) (st' := [.int v1, .int x4]) rfl ?_
      refine xZ.ic_gt (me := xm192) hP_192 rfl (fun h2 => ?_) (fun h2 => ?_)
      · skip
        refine xZ.adv (me := xm192) hP_192 2 (pc' := 2) (lv' := [(3, .int (v3 + (1 : Int32))), (0, .ref v0), (1, .int v1), (2, .int v2)]) (st' := []) rfl ?_
        exact xZ.sub (xsc (.tail _ (.head _)) (xsc (.tail _ (.tail _ (.head _))) (xsc (.tail _ (.tail _ (.tail _ (.head _)))) (xsc (.head _) xsn)))) (show ([3, 0, 1, 2] : List Nat).Nodup from by decide) (ih v0 v1 v2 (v3 + (1 : Int32)) M)
      · skip
        refine xZ.adv (me := xm192) hP_192 1 (pc' := 22) (lv' := [(0, .ref v0), (1, .int v1), (2, .int v2), (3, .int v3)]) (st' := [.ref v0]) rfl ?_
        refine xZ.k_gR (me := xm192) hP_192 rfl (fun x5 => ?_)
        refine xZ.adv (me := xm192) hP_192 2 (pc' := 27) (lv' := [(0, .ref v0), (1, .int v1), (2, .int v2), (3, .int v3)]) (st' := [.int v2, .int v3, .ref x5]) rfl ?_
        refine xZ.k_wI (me := xm192) hP_192 rfl (fun M1 => ?_)
        refine xZ.adv (me := xm192) hP_192 1 (pc' := 29) (lv' := [(0, .ref v0), (1, .int v1), (2, .int v2), (3, .int v3)]) (st' := [.int v3]) rfl ?_
        exact xZ.reti (me := xm192) hP_192 rfl rfl
def f_Meetings_takeRoom (O : Nat → Option va_E) (f : Nat) (v0 : Nat) (v1 : Int32) (v2 : Int32) (M : xM) : Option (Int32 × xM) :=
  f_Meetings_takeRoom_2 O f f v0 v1 v2 (0 : Int32) M
set_option maxRecDepth 20000 in
theorem k_f_Meetings_takeRoom (O : Nat → Option va_E) (f d : Nat) (v0 : Nat) (v1 : Int32) (v2 : Int32) (M : xM) : xZ oI O (d + 0) 192 0 [(0, .ref v0), (1, .int v1), (2, .int v2)] [] M (f_Meetings_takeRoom O f v0 v1 v2 M) := by
  unfold f_Meetings_takeRoom
  refine xZ.adv (me := xm192) hP_192 2 (pc' := 2) (lv' := [(3, .int (0 : Int32)), (0, .ref v0), (1, .int v1), (2, .int v2)]) (st' := []) rfl ?_
  exact xZ.sub (xsc (.tail _ (.head _)) (xsc (.tail _ (.tail _ (.head _))) (xsc (.tail _ (.tail _ (.tail _ (.head _)))) (xsc (.head _) xsn)))) (show ([3, 0, 1, 2] : List Nat).Nodup from by decide) (k_f_Meetings_takeRoom_2 O f d f v0 v1 v2 (0 : Int32) M)
def f_Meetings_lay_42 (O : Nat → Option va_E) (f : Nat) : Nat → Nat → Nat → Int32 → Int32 → xM → Option (Int32 × xM)
  | 0, _, _, _, _, _ => none
  | n + 1, v0, v1, v2, v3, M =>
    (gI O M v0 5 0).bind fun x1 =>
    if x1 ≤ v3 then (
      some (v2, M)
    ) else
    if (256 : Int32) ≤ v3 then (
      some (v2, M)
    ) else
    (gR O M v0 5 1).bind fun x2 =>
    (isO O M v1 2).bind fun _ =>
    xcl (f_Dates_rowAt O f v1 v3 M) fun x3 M1 =>
    xcl (f_Dates_numberOf O f x3 M1) fun x4 M2 =>
    (wI M2 x2 v3 x4).bind fun M3 =>
    (gR O M3 v0 5 2).bind fun x5 =>
    (isO O M3 v1 2).bind fun _ =>
    xcl (f_Dates_rowAt O f v1 v3 M3) fun x6 M4 =>
    xcl (f_Dates_dayIn O f x6 M4) fun x7 M5 =>
    (wI M5 x5 v3 x7).bind fun M6 =>
    (gR O M6 v0 5 3).bind fun x8 =>
    (isO O M6 v1 2).bind fun _ =>
    xcl (f_Dates_beginAt O f v1 v3 M6) fun x9 M7 =>
    (isO O M7 v1 2).bind fun _ =>
    xcl (f_Dates_endAt O f v1 v3 M7) fun x10 M8 =>
    (isO O M8 v0 5).bind fun _ =>
    xcl (f_Meetings_takeRoom O f v0 x9 x10 M8) fun x11 M9 =>
    (wI M9 x8 v3 x11).bind fun M10 =>
    (gR O M10 v0 5 3).bind fun x12 =>
    (aI O M10 x12 v3).bind fun x13 =>
    if x13 = (-1 : Int32) then (
      f_Meetings_lay_42 O f n v0 v1 (v2 + (1 : Int32)) (v3 + (1 : Int32)) M10
    ) else
    f_Meetings_lay_42 O f n v0 v1 v2 (v3 + (1 : Int32)) M10
set_option maxRecDepth 20000 in
theorem k_f_Meetings_lay_42 (O : Nat → Option va_E) (f d : Nat) : ∀ (n : Nat) (v0 : Nat) (v1 : Nat) (v2 : Int32) (v3 : Int32) (M : xM), xZ oI O (d + 3) 191 42 [(0, .ref v0), (1, .ref v1), (2, .int v2), (3, .int v3)] [] M (f_Meetings_lay_42 O f n v0 v1 v2 v3 M) := by
  intro n
  induction n with
  | zero =>
    intro v0 v1 v2 v3 M
    exact xZ.no
  | succ n ih =>
    intro v0 v1 v2 v3 M
    unfold f_Meetings_lay_42
    refine xZ.adv (me := xm191) hP_191 2 (pc' := 44) (lv' := [(0, .ref v0), (1, .ref v1), (2, .int v2), (3, .int v3)]) (st' := [.ref v0, .int v3]) rfl ?_
    refine xZ.k_gI (me := xm191) hP_191 rfl (fun x1 => ?_)
    refine xZ.ic_ge (me := xm191) hP_191 rfl (fun h1 => ?_) (fun h1 => ?_)
    · skip
      refine xZ.adv (me := xm191) hP_191 1 (pc' := 125) (lv' := [(0, .ref v0), (1, .ref v1), (2, .int v2), (3, .int v3)]) (st' := [.int v2]) rfl ?_
      exact xZ.reti (me := xm191) hP_191 rfl rfl
    · skip
      refine xZ.adv (me := xm191) hP_191 2 (pc' := 54) (lv' := [(0, .ref v0), (1, .ref v1), (2, .int v2), (3, .int v3)]) (st' := [.int (256 : Int32), .int v3]) rfl ?_
      refine xZ.ic_ge (me := xm191) hP_191 rfl (fun h2 => ?_) (fun h2 => ?_)
      · skip
        refine xZ.adv (me := xm191) hP_191 1 (pc' := 125) (lv' := [(0, .ref v0), (1, .ref v1), (2, .int v2), (3, .int v3)]) (st' := [.int v2]) rfl ?_
        exact xZ.reti (me := xm191) hP_191 rfl rfl
      · skip
        refine xZ.adv (me := xm191) hP_191 1 (pc' := 58) (lv' := [(0, .ref v0), (1, .ref v1), (2, .int v2), (3, .int v3)]) (st' := [.ref v0]) rfl ?_
        refine xZ.k_gR (me := xm191) hP_191 rfl (fun x2 => ?_)
        refine xZ.adv (me := xm191) hP_191 3 (pc' := 64) (lv' := [(0, .ref v0), (1, .ref v1), (2, .int v2), (3, .int v3)]) (st' := [.int v3, .ref v1, .int v3, .ref x2]) rfl ?_
        refine xZ.callv (κ := oL) (av := [.int v3]) (rest := [.int v3, .ref x2]) (st' := fun x3 => [.long x3, .int v3, .ref x2]) (k0 := v1) (me := xm191) hP_191 rfl (Or.inl rfl) ⟨rfl, by decide⟩ rfl rfl (Nat.le_of_ble_eq_true rfl) (by decide) hP_167 (Nat.le_of_ble_eq_true rfl) (fun _ => rfl) (k_f_Dates_rowAt O f (d + 2) v1 v3 M) (fun x3 M1 => ?_)
        refine xZ.calls (κ := oI) (av := [.long x3]) (rest := [.int v3, .ref x2]) (st' := fun x4 => [.int x4, .int v3, .ref x2]) (me := xm191) hP_191 rfl rfl rfl (Nat.le_of_ble_eq_true rfl) (by decide) hP_174 (Nat.le_of_ble_eq_true rfl) (fun _ => rfl) (k_f_Dates_numberOf O f (d + 2) x3 M1) (fun x4 M2 => ?_)
        refine xZ.k_wI (me := xm191) hP_191 rfl (fun M3 => ?_)
        refine xZ.adv (me := xm191) hP_191 1 (pc' := 72) (lv' := [(0, .ref v0), (1, .ref v1), (2, .int v2), (3, .int v3)]) (st' := [.ref v0]) rfl ?_
        refine xZ.k_gR (me := xm191) hP_191 rfl (fun x5 => ?_)
        refine xZ.adv (me := xm191) hP_191 3 (pc' := 78) (lv' := [(0, .ref v0), (1, .ref v1), (2, .int v2), (3, .int v3)]) (st' := [.int v3, .ref v1, .int v3, .ref x5]) rfl ?_
        refine xZ.callv (κ := oL) (av := [.int v3]) (rest := [.int v3, .ref x5]) (st' := fun x6 => [.long x6, .int v3, .ref x5]) (k0 := v1) (me := xm191) hP_191 rfl (Or.inl rfl) ⟨rfl, by decide⟩ rfl rfl (Nat.le_of_ble_eq_true rfl) (by decide) hP_167 (Nat.le_of_ble_eq_true rfl) (fun _ => rfl) (k_f_Dates_rowAt O f (d + 2) v1 v3 M3) (fun x6 M4 => ?_)
        refine xZ.calls (κ := oI) (av := [.long x6]) (rest := [.int v3, .ref x5]) (st' := fun x7 => [.int x7, .int v3, .ref x5]) (me := xm191) hP_191 rfl rfl rfl (Nat.le_of_ble_eq_true rfl) (by decide) hP_123 (Nat.le_of_ble_eq_true rfl) (fun _ => rfl) (k_f_Dates_dayIn O f (d + 2) x6 M4) (fun x7 M5 => ?_)
        refine xZ.k_wI (me := xm191) hP_191 rfl (fun M6 => ?_)
        refine xZ.adv (me := xm191) hP_191 1 (pc' := 86) (lv' := [(0, .ref v0), (1, .ref v1), (2, .int v2), (3, .int v3)]) (st' := [.ref v0]) rfl ?_
        refine xZ.k_gR (me := xm191) hP_191 rfl (fun x8 => ?_)
        refine xZ.adv (me := xm191) hP_191 4 (pc' := 93) (lv' := [(0, .ref v0), (1, .ref v1), (2, .int v2), (3, .int v3)]) (st' := [.int v3, .ref v1, .ref v0, .int v3, .ref x8]) rfl ?_
        refine xZ.callv (κ := oI) (av := [.int v3]) (rest := [.ref v0, .int v3, .ref x8]) (st' := fun x9 => [.int x9, .ref v0, .int v3, .ref x8]) (k0 := v1) (me := xm191) hP_191 rfl (Or.inl rfl) ⟨rfl, by decide⟩ rfl rfl (Nat.le_of_ble_eq_true rfl) (by decide) hP_171 (Nat.le_of_ble_eq_true rfl) (fun _ => rfl) (k_f_Dates_beginAt O f (d + 1) v1 v3 M6) (fun x9 M7 => ?_)
        refine xZ.adv (me := xm191) hP_191 2 (pc' := 98) (lv' := [(0, .ref v0), (1, .ref v1), (2, .int v2), (3, .int v3)]) (st' := [.int v3, .ref v1, .int x9, .ref v0, .int v3, .ref x8]) rfl ?_
        refine xZ.callv (κ := oI) (av := [.int v3]) (rest := [.int x9, .ref v0, .int v3, .ref x8]) (st' := fun x10 => [.int x10, .int x9, .ref v0, .int v3, .ref x8]) (k0 := v1) (me := xm191) hP_191 rfl (Or.inl rfl) ⟨rfl, by decide⟩ rfl rfl (Nat.le_of_ble_eq_true rfl) (by decide) hP_170 (Nat.le_of_ble_eq_true rfl) (fun _ => rfl) (k_f_Dates_endAt O f (d + 0) v1 v3 M7) (fun x10 M8 => ?_)
        refine xZ.callv (κ := oI) (av := [.int x9, .int x10]) (rest := [.int v3, .ref x8]) (st' := fun x11 => [.int x11, .int v3, .ref x8]) (k0 := v0) (me := xm191) hP_191 rfl (Or.inl rfl) ⟨rfl, by decide⟩ rfl rfl (Nat.le_of_ble_eq_true rfl) (by decide) hP_192 (Nat.le_of_ble_eq_true rfl) (fun _ => rfl) (k_f_Meetings_takeRoom O f (d + 2) v0 x9 x10 M8) (fun x11 M9 => ?_)
        refine xZ.k_wI (me := xm191) hP_191 rfl (fun M10 => ?_)
        refine xZ.adv (me := xm191) hP_191 1 (pc' := 106) (lv' := [(0, .ref v0), (1, .ref v1), (2, .int v2), (3, .int v3)]) (st' := [.ref v0]) rfl ?_
        refine xZ.k_gR (me := xm191) hP_191 rfl (fun x12 => ?_)
        refine xZ.adv (me := xm191) hP_191 1 (pc' := 110) (lv' := [(0, .ref v0), (1, .ref v1), (2, .int v2), (3, .int v3)]) (st' := [.int v3, .ref x12]) rfl ?_
        refine xZ.k_aI (me := xm191) hP_191 rfl (fun x13 => ?_)
        refine xZ.adv (me := xm191) hP_191 1 (pc' := 112) (lv' := [(0, .ref v0), (1, .ref v1), (2, .int v2), (3, .int v3)]) (st' := [.int (-1 : Int32), .int x13]) rfl ?_
        refine xZ.ic_ne (me := xm191) hP_191 rfl (fun h3 => ?_) (fun h3 => ?_)
        · skip
          refine xZ.adv (me := xm191) hP_191 3 (pc' := 42) (lv' := [(3, .int (v3 + (1 : Int32))), (2, .int (v2 + (1 : Int32))), (0, .ref v0), (1, .ref v1)]) (st' := []) rfl ?_
          exact xZ.sub (xsc (.tail _ (.tail _ (.head _))) (xsc (.tail _ (.tail _ (.tail _ (.head _)))) (xsc (.tail _ (.head _)) (xsc (.head _) xsn)))) (show ([3, 2, 0, 1] : List Nat).Nodup from by decide) (ih v0 v1 (v2 + (1 : Int32)) (v3 + (1 : Int32)) M10)
        · skip
          refine xZ.adv (me := xm191) hP_191 2 (pc' := 42) (lv' := [(3, .int (v3 + (1 : Int32))), (0, .ref v0), (1, .ref v1), (2, .int v2)]) (st' := []) rfl ?_
          exact xZ.sub (xsc (.tail _ (.head _)) (xsc (.tail _ (.tail _ (.head _))) (xsc (.tail _ (.tail _ (.tail _ (.head _)))) (xsc (.head _) xsn)))) (show ([3, 0, 1, 2] : List Nat).Nodup from by decide) (ih v0 v1 v2 (v3 + (1 : Int32)) M10)
def f_Meetings_lay_2 (O : Nat → Option va_E) (f : Nat) : Nat → Nat → Nat → Int32 → xM → Option (Int32 × xM)
  | 0, _, _, _, _ => none
  | n + 1, v0, v1, v2, M =>
    (gR O M v0 5 4).bind fun x1 =>
    (aN O M x1).bind fun x2 =>
    if x2 ≤ v2 then (
      (gI O M v1 2 0).bind fun x3 =>
      xcl (f_Math_min O f x3 (256 : Int32) M) fun x4 M1 =>
      (pI M1 v0 5 0 x4).bind fun M2 =>
      f_Meetings_lay_42 O f f v0 v1 (0 : Int32) (0 : Int32) M2
    ) else
    (gR O M v0 5 4).bind fun x5 =>
    (wI M x5 v2 (0 : Int32)).bind fun M3 =>
    f_Meetings_lay_2 O f n v0 v1 (v2 + (1 : Int32)) M3
set_option maxRecDepth 20000 in
theorem k_f_Meetings_lay_2 (O : Nat → Option va_E) (f d : Nat) : ∀ (n : Nat) (v0 : Nat) (v1 : Nat) (v2 : Int32) (M : xM), xZ oI O (d + 3) 191 2 [(0, .ref v0), (1, .ref v1), (2, .int v2)] [] M (f_Meetings_lay_2 O f n v0 v1 v2 M) := by
  intro n
  induction n with
  | zero =>
    intro v0 v1 v2 M
    exact xZ.no
  | succ n ih =>
    intro v0 v1 v2 M
    unfold f_Meetings_lay_2
    refine xZ.adv (me := xm191) hP_191 2 (pc' := 4) (lv' := [(0, .ref v0), (1, .ref v1), (2, .int v2)]) (st' := [.ref v0, .int v2]) rfl ?_
    refine xZ.k_gR (me := xm191) hP_191 rfl (fun x1 => ?_)
    refine xZ.k_aN (me := xm191) hP_191 rfl (fun x2 => ?_)
    refine xZ.ic_ge (me := xm191) hP_191 rfl (fun h1 => ?_) (fun h1 => ?_)
    · skip
      refine xZ.adv (me := xm191) hP_191 2 (pc' := 26) (lv' := [(0, .ref v0), (1, .ref v1), (2, .int v2)]) (st' := [.ref v1, .ref v0]) rfl ?_
      refine xZ.k_gI (me := xm191) hP_191 rfl (fun x3 => ?_)
      refine xZ.adv (me := xm191) hP_191 1 (pc' := 32) (lv' := [(0, .ref v0), (1, .ref v1), (2, .int v2)]) (st' := [.int (256 : Int32), .int x3, .ref v0]) rfl ?_
      refine xZ.calls (κ := oI) (av := [.int x3, .int (256 : Int32)]) (rest := [.ref v0]) (st' := fun x4 => [.int x4, .ref v0]) (me := xm191) hP_191 rfl rfl rfl (Nat.le_of_ble_eq_true rfl) (by decide) hP_248 (Nat.le_of_ble_eq_true rfl) (fun _ => rfl) (k_f_Math_min O f (d + 2) x3 (256 : Int32) M) (fun x4 M1 => ?_)
      refine xZ.k_pI (me := xm191) hP_191 rfl (fun M2 => ?_)
      refine xZ.adv (me := xm191) hP_191 4 (pc' := 42) (lv' := [(3, .int (0 : Int32)), (2, .int (0 : Int32)), (0, .ref v0), (1, .ref v1)]) (st' := []) rfl ?_
      exact xZ.sub (xsc (.tail _ (.tail _ (.head _))) (xsc (.tail _ (.tail _ (.tail _ (.head _)))) (xsc (.tail _ (.head _)) (xsc (.head _) xsn)))) (show ([3, 2, 0, 1] : List Nat).Nodup from by decide) (k_f_Meetings_lay_42 O f d f v0 v1 (0 : Int32) (0 : Int32) M2)
    · skip
      refine xZ.adv (me := xm191) hP_191 1 (pc' := 12) (lv' := [(0, .ref v0), (1, .ref v1), (2, .int v2)]) (st' := [.ref v0]) rfl ?_
      refine xZ.k_gR (me := xm191) hP_191 rfl (fun x5 => ?_)
      refine xZ.adv (me := xm191) hP_191 2 (pc' := 17) (lv' := [(0, .ref v0), (1, .ref v1), (2, .int v2)]) (st' := [.int (0 : Int32), .int v2, .ref x5]) rfl ?_
      refine xZ.k_wI (me := xm191) hP_191 rfl (fun M3 => ?_)
      refine xZ.adv (me := xm191) hP_191 2 (pc' := 2) (lv' := [(2, .int (v2 + (1 : Int32))), (0, .ref v0), (1, .ref v1)]) (st' := []) rfl ?_
      exact xZ.sub (xsc (.tail _ (.head _)) (xsc (.tail _ (.tail _ (.head _))) (xsc (.head _) xsn))) (show ([2, 0, 1] : List Nat).Nodup from by decide) (ih v0 v1 (v2 + (1 : Int32)) M3)
def f_Meetings_lay (O : Nat → Option va_E) (f : Nat) (v0 : Nat) (v1 : Nat) (M : xM) : Option (Int32 × xM) :=
  f_Meetings_lay_2 O f f v0 v1 (0 : Int32) M
set_option maxRecDepth 20000 in
theorem k_f_Meetings_lay (O : Nat → Option va_E) (f d : Nat) (v0 : Nat) (v1 : Nat) (M : xM) : xZ oI O (d + 3) 191 0 [(0, .ref v0), (1, .ref v1)] [] M (f_Meetings_lay O f v0 v1 M) := by
  unfold f_Meetings_lay
  refine xZ.adv (me := xm191) hP_191 2 (pc' := 2) (lv' := [(2, .int (0 : Int32)), (0, .ref v0), (1, .ref v1)]) (st' := []) rfl ?_
  exact xZ.sub (xsc (.tail _ (.head _)) (xsc (.tail _ (.tail _ (.head _))) (xsc (.head _) xsn))) (show ([2, 0, 1] : List Nat).Nodup from by decide) (k_f_Meetings_lay_2 O f d f v0 v1 (0 : Int32) M)
def f_Calendarhall_layRooms (O : Nat → Option va_E) (f : Nat) (v0 : Nat) (v1 : Int32) (v2 : Int32) (M : xM) : Option (Int32 × xM) :=
  xcl (f_Calendarhall_needPiece O f v1 v2 (10080 : Int32) M) fun _ M1 =>
  (gR O M1 v0 12 0).bind fun x2 =>
  (gR O M1 v0 12 4).bind fun x3 =>
  (gR O M1 v0 12 0).bind fun x4 =>
  (isO O M1 x4 4).bind fun _ =>
  xcl (f_Hall_seriesWithRoom O f x4 M1) fun x5 M2 =>
  (isO O M2 x2 4).bind fun _ =>
  xcl (f_Hall_collect O f x2 x3 x5 v1 v2 M2) fun _ M3 =>
  (gR O M3 v0 12 5).bind fun x7 =>
  (gR O M3 v0 12 4).bind fun x8 =>
  (isO O M3 x7 5).bind fun _ =>
  xcl (f_Meetings_lay O f x7 x8 M3) fun x9 M4 =>
  some (x9, M4)
set_option maxRecDepth 20000 in
theorem k_f_Calendarhall_layRooms (O : Nat → Option va_E) (f d : Nat) (v0 : Nat) (v1 : Int32) (v2 : Int32) (M : xM) : xZ oI O (d + 7) 188 0 [(0, .ref v0), (1, .int v1), (2, .int v2)] [] M (f_Calendarhall_layRooms O f v0 v1 v2 M) := by
  unfold f_Calendarhall_layRooms
  refine xZ.adv (me := xm188) hP_188 3 (pc' := 5) (lv' := [(0, .ref v0), (1, .int v1), (2, .int v2)]) (st' := [.int (10080 : Int32), .int v2, .int v1]) rfl ?_
  refine xZ.calls (κ := oU) (av := [.int v1, .int v2, .int (10080 : Int32)]) (rest := []) (st' := fun _ => []) (me := xm188) hP_188 rfl rfl rfl (Nat.le_of_ble_eq_true rfl) (by decide) hP_114 (Nat.le_of_ble_eq_true rfl) (fun _ => rfl) (k_f_Calendarhall_needPiece O f (d + 5) v1 v2 (10080 : Int32) M) (fun _ M1 => ?_)
  refine xZ.adv (me := xm188) hP_188 1 (pc' := 9) (lv' := [(0, .ref v0), (1, .int v1), (2, .int v2)]) (st' := [.ref v0]) rfl ?_
  refine xZ.k_gR (me := xm188) hP_188 rfl (fun x2 => ?_)
  refine xZ.adv (me := xm188) hP_188 1 (pc' := 13) (lv' := [(0, .ref v0), (1, .int v1), (2, .int v2)]) (st' := [.ref v0, .ref x2]) rfl ?_
  refine xZ.k_gR (me := xm188) hP_188 rfl (fun x3 => ?_)
  refine xZ.adv (me := xm188) hP_188 1 (pc' := 17) (lv' := [(0, .ref v0), (1, .int v1), (2, .int v2)]) (st' := [.ref v0, .ref x3, .ref x2]) rfl ?_
  refine xZ.k_gR (me := xm188) hP_188 rfl (fun x4 => ?_)
  refine xZ.callv (κ := oI) (av := []) (rest := [.ref x3, .ref x2]) (st' := fun x5 => [.int x5, .ref x3, .ref x2]) (k0 := x4) (me := xm188) hP_188 rfl (Or.inl rfl) ⟨rfl, by decide⟩ rfl rfl (Nat.le_of_ble_eq_true rfl) (by decide) hP_189 (Nat.le_of_ble_eq_true rfl) (fun _ => rfl) (k_f_Hall_seriesWithRoom O f (d + 6) x4 M1) (fun x5 M2 => ?_)
  refine xZ.adv (me := xm188) hP_188 2 (pc' := 25) (lv' := [(0, .ref v0), (1, .int v1), (2, .int v2)]) (st' := [.int v2, .int v1, .int x5, .ref x3, .ref x2]) rfl ?_
  refine xZ.callv (κ := oU) (av := [.ref x3, .int x5, .int v1, .int v2]) (rest := []) (st' := fun _ => []) (k0 := x2) (me := xm188) hP_188 rfl (Or.inl rfl) ⟨rfl, by decide⟩ rfl rfl (Nat.le_of_ble_eq_true rfl) (by decide) hP_190 (Nat.le_of_ble_eq_true rfl) (fun _ => rfl) (k_f_Hall_collect O f (d + 0) x2 x3 x5 v1 v2 M2) (fun _ M3 => ?_)
  refine xZ.adv (me := xm188) hP_188 1 (pc' := 29) (lv' := [(0, .ref v0), (1, .int v1), (2, .int v2)]) (st' := [.ref v0]) rfl ?_
  refine xZ.k_gR (me := xm188) hP_188 rfl (fun x7 => ?_)
  refine xZ.adv (me := xm188) hP_188 1 (pc' := 33) (lv' := [(0, .ref v0), (1, .int v1), (2, .int v2)]) (st' := [.ref v0, .ref x7]) rfl ?_
  refine xZ.k_gR (me := xm188) hP_188 rfl (fun x8 => ?_)
  refine xZ.callv (κ := oI) (av := [.ref x8]) (rest := []) (st' := fun x9 => [.int x9]) (k0 := x7) (me := xm188) hP_188 rfl (Or.inl rfl) ⟨rfl, by decide⟩ rfl rfl (Nat.le_of_ble_eq_true rfl) (by decide) hP_191 (Nat.le_of_ble_eq_true rfl) (fun _ => rfl) (k_f_Meetings_lay O f (d + 3) x7 x8 M3) (fun x9 M4 => ?_)
  exact xZ.reti (me := xm188) hP_188 rfl rfl
def f_Dates_mostAtOnce_62 (O : Nat → Option va_E) (f : Nat) (K4 : Nat → Int32 → Int32 → xM → Option (Int32 × xM)) (v0 : Nat) (v1 : Int32) (v2 : Int32) (v4 : Int32) (M : xM) : Option (Int32 × xM) :=
  xcl (f_Math_max O f v1 v4 M) fun x1 M1 =>
  K4 v0 x1 (v2 + (1 : Int32)) M1
set_option maxRecDepth 20000 in
theorem k_f_Dates_mostAtOnce_62 (O : Nat → Option va_E) (f d : Nat) (K4 : Nat → Int32 → Int32 → xM → Option (Int32 × xM)) (hK4 : ∀ (v0 : Nat) (v1 : Int32) (v2 : Int32) M, xZ oI O (d + 3) 194 4 [(0, .ref v0), (1, .int v1), (2, .int v2)] [] M (K4 v0 v1 v2 M)) (v0 : Nat) (v1 : Int32) (v2 : Int32) (v4 : Int32) (M : xM) : xZ oI O (d + 3) 194 62 [(0, .ref v0), (1, .int v1), (2, .int v2), (4, .int v4)] [] M (f_Dates_mostAtOnce_62 O f K4 v0 v1 v2 v4 M) := by
  unfold f_Dates_mostAtOnce_62
  refine xZ.adv (me := xm194) hP_194 2 (pc' := 65) (lv' := [(0, .ref v0), (1, .int v1), (2, .int v2), (4, .int v4)]) (st' := [.int v4, .int v1]) rfl ?_
  refine xZ.calls (κ := oI) (av := [.int v1, .int v4]) (rest := []) (st' := fun x1 => [.int x1]) (me := xm194) hP_194 rfl rfl rfl (Nat.le_of_ble_eq_true rfl) (by decide) hP_247 (Nat.le_of_ble_eq_true rfl) (fun _ => rfl) (k_f_Math_max O f (d + 2) v1 v4 M) (fun x1 M1 => ?_)
  refine xZ.adv (me := xm194) hP_194 3 (pc' := 4) (lv' := [(2, .int (v2 + (1 : Int32))), (1, .int x1), (0, .ref v0), (4, .int v4)]) (st' := []) rfl ?_
  exact xZ.sub (xsc (.tail _ (.tail _ (.head _))) (xsc (.tail _ (.head _)) (xsc (.head _) xsn))) (show ([2, 1, 0, 4] : List Nat).Nodup from by decide) (hK4 v0 x1 (v2 + (1 : Int32)) M1)
def f_Dates_mostAtOnce_24 (O : Nat → Option va_E) (f : Nat) (K4 : Nat → Int32 → Int32 → xM → Option (Int32 × xM)) : Nat → Nat → Int32 → Int32 → Int32 → Int32 → Int32 → xM → Option (Int32 × xM)
  | 0, _, _, _, _, _, _, _ => none
  | n + 1, v0, v1, v2, v3, v4, v5, M =>
    if v5 < 0 then (
      f_Dates_mostAtOnce_62 O f K4 v0 v1 v2 v4 M
    ) else
    (isO O M v0 2).bind fun _ =>
    xcl (f_Dates_beginAt O f v0 v5 M) fun x1 M1 =>
    if (x1 + (600 : Int32)) ≤ v3 then (
      f_Dates_mostAtOnce_62 O f K4 v0 v1 v2 v4 M1
    ) else
    (isO O M1 v0 2).bind fun _ =>
    xcl (f_Dates_endAt O f v0 v5 M1) fun x2 M2 =>
    if x2 ≤ v3 then (
      f_Dates_mostAtOnce_24 O f K4 n v0 v1 v2 v3 v4 (v5 + (-1 : Int32)) M2
    ) else
    f_Dates_mostAtOnce_24 O f K4 n v0 v1 v2 v3 (v4 + (1 : Int32)) (v5 + (-1 : Int32)) M2
set_option maxRecDepth 20000 in
theorem k_f_Dates_mostAtOnce_24 (O : Nat → Option va_E) (f d : Nat) (K4 : Nat → Int32 → Int32 → xM → Option (Int32 × xM)) (hK4 : ∀ (v0 : Nat) (v1 : Int32) (v2 : Int32) M, xZ oI O (d + 3) 194 4 [(0, .ref v0), (1, .int v1), (2, .int v2)] [] M (K4 v0 v1 v2 M)) : ∀ (n : Nat) (v0 : Nat) (v1 : Int32) (v2 : Int32) (v3 : Int32) (v4 : Int32) (v5 : Int32) (M : xM), xZ oI O (d + 3) 194 24 [(0, .ref v0), (1, .int v1), (2, .int v2), (3, .int v3), (4, .int v4), (5, .int v5)] [] M (f_Dates_mostAtOnce_24 O f K4 n v0 v1 v2 v3 v4 v5 M) := by
  intro n
  induction n with
  | zero =>
    intro v0 v1 v2 v3 v4 v5 M
    exact xZ.no
  | succ n ih =>
    intro v0 v1 v2 v3 v4 v5 M
    unfold f_Dates_mostAtOnce_24
    refine xZ.adv (me := xm194) hP_194 1 (pc' := 26) (lv' := [(0, .ref v0), (1, .int v1), (2, .int v2), (3, .int v3), (4, .int v4), (5, .int v5)]) (st' := [.int v5]) rfl ?_
    refine xZ.if_lt (me := xm194) hP_194 rfl (fun h1 => ?_) (fun h1 => ?_)
    · skip
      exact xZ.sub (xsc (.head _) (xsc (.tail _ (.head _)) (xsc (.tail _ (.tail _ (.head _))) (xsc (.tail _ (.tail _ (.tail _ (.tail _ (.head _))))) xsn)))) (show ([0, 1, 2, 3, 4, 5] : List Nat).Nodup from by decide) (k_f_Dates_mostAtOnce_62 O f d K4 hK4 v0 v1 v2 v4 M)
    · skip
      refine xZ.adv (me := xm194) hP_194 2 (pc' := 32) (lv' := [(0, .ref v0), (1, .int v1), (2, .int v2), (3, .int v3), (4, .int v4), (5, .int v5)]) (st' := [.int v5, .ref v0]) rfl ?_
      refine xZ.callv (κ := oI) (av := [.int v5]) (rest := []) (st' := fun x1 => [.int x1]) (k0 := v0) (me := xm194) hP_194 rfl (Or.inl rfl) ⟨rfl, by decide⟩ rfl rfl (Nat.le_of_ble_eq_true rfl) (by decide) hP_171 (Nat.le_of_ble_eq_true rfl) (fun _ => rfl) (k_f_Dates_beginAt O f (d + 1) v0 v5 M) (fun x1 M1 => ?_)
      refine xZ.adv (me := xm194) hP_194 3 (pc' := 40) (lv' := [(0, .ref v0), (1, .int v1), (2, .int v2), (3, .int v3), (4, .int v4), (5, .int v5)]) (st' := [.int v3, .int (x1 + (600 : Int32))]) rfl ?_
      refine xZ.ic_le (me := xm194) hP_194 rfl (fun h2 => ?_) (fun h2 => ?_)
      · skip
        exact xZ.sub (xsc (.head _) (xsc (.tail _ (.head _)) (xsc (.tail _ (.tail _ (.head _))) (xsc (.tail _ (.tail _ (.tail _ (.tail _ (.head _))))) xsn)))) (show ([0, 1, 2, 3, 4, 5] : List Nat).Nodup from by decide) (k_f_Dates_mostAtOnce_62 O f d K4 hK4 v0 v1 v2 v4 M1)
      · skip
        refine xZ.adv (me := xm194) hP_194 2 (pc' := 46) (lv' := [(0, .ref v0), (1, .int v1), (2, .int v2), (3, .int v3), (4, .int v4), (5, .int v5)]) (st' := [.int v5, .ref v0]) rfl ?_
        refine xZ.callv (κ := oI) (av := [.int v5]) (rest := []) (st' := fun x2 => [.int x2]) (k0 := v0) (me := xm194) hP_194 rfl (Or.inl rfl) ⟨rfl, by decide⟩ rfl rfl (Nat.le_of_ble_eq_true rfl) (by decide) hP_170 (Nat.le_of_ble_eq_true rfl) (fun _ => rfl) (k_f_Dates_endAt O f (d + 0) v0 v5 M1) (fun x2 M2 => ?_)
        refine xZ.adv (me := xm194) hP_194 1 (pc' := 50) (lv' := [(0, .ref v0), (1, .int v1), (2, .int v2), (3, .int v3), (4, .int v4), (5, .int v5)]) (st' := [.int v3, .int x2]) rfl ?_
        refine xZ.ic_le (me := xm194) hP_194 rfl (fun h3 => ?_) (fun h3 => ?_)
        · skip
          refine xZ.adv (me := xm194) hP_194 2 (pc' := 24) (lv' := [(5, .int (v5 + (-1 : Int32))), (0, .ref v0), (1, .int v1), (2, .int v2), (3, .int v3), (4, .int v4)]) (st' := []) rfl ?_
          exact xZ.sub (xsc (.tail _ (.head _)) (xsc (.tail _ (.tail _ (.head _))) (xsc (.tail _ (.tail _ (.tail _ (.head _)))) (xsc (.tail _ (.tail _ (.tail _ (.tail _ (.head _))))) (xsc (.tail _ (.tail _ (.tail _ (.tail _ (.tail _ (.head _)))))) (xsc (.head _) xsn)))))) (show ([5, 0, 1, 2, 3, 4] : List Nat).Nodup from by decide) (ih v0 v1 v2 v3 v4 (v5 + (-1 : Int32)) M2)
        · skip
          refine xZ.adv (me := xm194) hP_194 3 (pc' := 24) (lv' := [(5, .int (v5 + (-1 : Int32))), (4, .int (v4 + (1 : Int32))), (0, .ref v0), (1, .int v1), (2, .int v2), (3, .int v3)]) (st' := []) rfl ?_
          exact xZ.sub (xsc (.tail _ (.tail _ (.head _))) (xsc (.tail _ (.tail _ (.tail _ (.head _)))) (xsc (.tail _ (.tail _ (.tail _ (.tail _ (.head _))))) (xsc (.tail _ (.tail _ (.tail _ (.tail _ (.tail _ (.head _)))))) (xsc (.tail _ (.head _)) (xsc (.head _) xsn)))))) (show ([5, 4, 0, 1, 2, 3] : List Nat).Nodup from by decide) (ih v0 v1 v2 v3 (v4 + (1 : Int32)) (v5 + (-1 : Int32)) M2)
def f_Dates_mostAtOnce_4 (O : Nat → Option va_E) (f : Nat) : Nat → Nat → Int32 → Int32 → xM → Option (Int32 × xM)
  | 0, _, _, _, _ => none
  | n + 1, v0, v1, v2, M =>
    (gI O M v0 2 0).bind fun x1 =>
    if x1 ≤ v2 then (
      some (v1, M)
    ) else
    (isO O M v0 2).bind fun _ =>
    xcl (f_Dates_beginAt O f v0 v2 M) fun x2 M1 =>
    f_Dates_mostAtOnce_24 O f (f_Dates_mostAtOnce_4 O f n) f v0 v1 v2 x2 (0 : Int32) v2 M1
set_option maxRecDepth 20000 in
theorem k_f_Dates_mostAtOnce_4 (O : Nat → Option va_E) (f d : Nat) : ∀ (n : Nat) (v0 : Nat) (v1 : Int32) (v2 : Int32) (M : xM), xZ oI O (d + 3) 194 4 [(0, .ref v0), (1, .int v1), (2, .int v2)] [] M (f_Dates_mostAtOnce_4 O f n v0 v1 v2 M) := by
  intro n
  induction n with
  | zero =>
    intro v0 v1 v2 M
    exact xZ.no
  | succ n ih =>
    intro v0 v1 v2 M
    unfold f_Dates_mostAtOnce_4
    refine xZ.adv (me := xm194) hP_194 2 (pc' := 6) (lv' := [(0, .ref v0), (1, .int v1), (2, .int v2)]) (st' := [.ref v0, .int v2]) rfl ?_
    refine xZ.k_gI (me := xm194) hP_194 rfl (fun x1 => ?_)
    refine xZ.ic_ge (me := xm194) hP_194 rfl (fun h1 => ?_) (fun h1 => ?_)
    · skip
      refine xZ.adv (me := xm194) hP_194 1 (pc' := 76) (lv' := [(0, .ref v0), (1, .int v1), (2, .int v2)]) (st' := [.int v1]) rfl ?_
      exact xZ.reti (me := xm194) hP_194 rfl rfl
    · skip
      refine xZ.adv (me := xm194) hP_194 2 (pc' := 14) (lv' := [(0, .ref v0), (1, .int v1), (2, .int v2)]) (st' := [.int v2, .ref v0]) rfl ?_
      refine xZ.callv (κ := oI) (av := [.int v2]) (rest := []) (st' := fun x2 => [.int x2]) (k0 := v0) (me := xm194) hP_194 rfl (Or.inl rfl) ⟨rfl, by decide⟩ rfl rfl (Nat.le_of_ble_eq_true rfl) (by decide) hP_171 (Nat.le_of_ble_eq_true rfl) (fun _ => rfl) (k_f_Dates_beginAt O f (d + 1) v0 v2 M) (fun x2 M1 => ?_)
      refine xZ.adv (me := xm194) hP_194 5 (pc' := 24) (lv' := [(5, .int v2), (4, .int (0 : Int32)), (3, .int x2), (0, .ref v0), (1, .int v1), (2, .int v2)]) (st' := []) rfl ?_
      exact xZ.sub (xsc (.tail _ (.tail _ (.tail _ (.head _)))) (xsc (.tail _ (.tail _ (.tail _ (.tail _ (.head _))))) (xsc (.tail _ (.tail _ (.tail _ (.tail _ (.tail _ (.head _)))))) (xsc (.tail _ (.tail _ (.head _))) (xsc (.tail _ (.head _)) (xsc (.head _) xsn)))))) (show ([5, 4, 3, 0, 1, 2] : List Nat).Nodup from by decide) (k_f_Dates_mostAtOnce_24 O f d (f_Dates_mostAtOnce_4 O f n) ih f v0 v1 v2 x2 (0 : Int32) v2 M1)
def f_Dates_mostAtOnce (O : Nat → Option va_E) (f : Nat) (v0 : Nat) (M : xM) : Option (Int32 × xM) :=
  f_Dates_mostAtOnce_4 O f f v0 (0 : Int32) (0 : Int32) M
set_option maxRecDepth 20000 in
theorem k_f_Dates_mostAtOnce (O : Nat → Option va_E) (f d : Nat) (v0 : Nat) (M : xM) : xZ oI O (d + 3) 194 0 [(0, .ref v0)] [] M (f_Dates_mostAtOnce O f v0 M) := by
  unfold f_Dates_mostAtOnce
  refine xZ.adv (me := xm194) hP_194 4 (pc' := 4) (lv' := [(2, .int (0 : Int32)), (1, .int (0 : Int32)), (0, .ref v0)]) (st' := []) rfl ?_
  exact xZ.sub (xsc (.tail _ (.tail _ (.head _))) (xsc (.tail _ (.head _)) (xsc (.head _) xsn))) (show ([2, 1, 0] : List Nat).Nodup from by decide) (k_f_Dates_mostAtOnce_4 O f d f v0 (0 : Int32) (0 : Int32) M)
def f_Calendarhall_roomsNeeded (O : Nat → Option va_E) (f : Nat) (v0 : Nat) (v1 : Int32) (v2 : Int32) (M : xM) : Option (Int32 × xM) :=
  xcl (f_Calendarhall_needPiece O f v1 v2 (10080 : Int32) M) fun _ M1 =>
  (gR O M1 v0 12 0).bind fun x2 =>
  (gR O M1 v0 12 4).bind fun x3 =>
  (gR O M1 v0 12 0).bind fun x4 =>
  (isO O M1 x4 4).bind fun _ =>
  xcl (f_Hall_seriesWithRoom O f x4 M1) fun x5 M2 =>
  (isO O M2 x2 4).bind fun _ =>
  xcl (f_Hall_collect O f x2 x3 x5 v1 v2 M2) fun _ M3 =>
  (gR O M3 v0 12 4).bind fun x7 =>
  (isO O M3 x7 2).bind fun _ =>
  xcl (f_Dates_mostAtOnce O f x7 M3) fun x8 M4 =>
  some (x8, M4)
set_option maxRecDepth 20000 in
theorem k_f_Calendarhall_roomsNeeded (O : Nat → Option va_E) (f d : Nat) (v0 : Nat) (v1 : Int32) (v2 : Int32) (M : xM) : xZ oI O (d + 7) 193 0 [(0, .ref v0), (1, .int v1), (2, .int v2)] [] M (f_Calendarhall_roomsNeeded O f v0 v1 v2 M) := by
  unfold f_Calendarhall_roomsNeeded
  refine xZ.adv (me := xm193) hP_193 3 (pc' := 5) (lv' := [(0, .ref v0), (1, .int v1), (2, .int v2)]) (st' := [.int (10080 : Int32), .int v2, .int v1]) rfl ?_
  refine xZ.calls (κ := oU) (av := [.int v1, .int v2, .int (10080 : Int32)]) (rest := []) (st' := fun _ => []) (me := xm193) hP_193 rfl rfl rfl (Nat.le_of_ble_eq_true rfl) (by decide) hP_114 (Nat.le_of_ble_eq_true rfl) (fun _ => rfl) (k_f_Calendarhall_needPiece O f (d + 5) v1 v2 (10080 : Int32) M) (fun _ M1 => ?_)
  refine xZ.adv (me := xm193) hP_193 1 (pc' := 9) (lv' := [(0, .ref v0), (1, .int v1), (2, .int v2)]) (st' := [.ref v0]) rfl ?_
  refine xZ.k_gR (me := xm193) hP_193 rfl (fun x2 => ?_)
  refine xZ.adv (me := xm193) hP_193 1 (pc' := 13) (lv' := [(0, .ref v0), (1, .int v1), (2, .int v2)]) (st' := [.ref v0, .ref x2]) rfl ?_
  refine xZ.k_gR (me := xm193) hP_193 rfl (fun x3 => ?_)
  refine xZ.adv (me := xm193) hP_193 1 (pc' := 17) (lv' := [(0, .ref v0), (1, .int v1), (2, .int v2)]) (st' := [.ref v0, .ref x3, .ref x2]) rfl ?_
  refine xZ.k_gR (me := xm193) hP_193 rfl (fun x4 => ?_)
  refine xZ.callv (κ := oI) (av := []) (rest := [.ref x3, .ref x2]) (st' := fun x5 => [.int x5, .ref x3, .ref x2]) (k0 := x4) (me := xm193) hP_193 rfl (Or.inl rfl) ⟨rfl, by decide⟩ rfl rfl (Nat.le_of_ble_eq_true rfl) (by decide) hP_189 (Nat.le_of_ble_eq_true rfl) (fun _ => rfl) (k_f_Hall_seriesWithRoom O f (d + 6) x4 M1) (fun x5 M2 => ?_)
  refine xZ.adv (me := xm193) hP_193 2 (pc' := 25) (lv' := [(0, .ref v0), (1, .int v1), (2, .int v2)]) (st' := [.int v2, .int v1, .int x5, .ref x3, .ref x2]) rfl ?_
  refine xZ.callv (κ := oU) (av := [.ref x3, .int x5, .int v1, .int v2]) (rest := []) (st' := fun _ => []) (k0 := x2) (me := xm193) hP_193 rfl (Or.inl rfl) ⟨rfl, by decide⟩ rfl rfl (Nat.le_of_ble_eq_true rfl) (by decide) hP_190 (Nat.le_of_ble_eq_true rfl) (fun _ => rfl) (k_f_Hall_collect O f (d + 0) x2 x3 x5 v1 v2 M2) (fun _ M3 => ?_)
  refine xZ.adv (me := xm193) hP_193 1 (pc' := 29) (lv' := [(0, .ref v0), (1, .int v1), (2, .int v2)]) (st' := [.ref v0]) rfl ?_
  refine xZ.k_gR (me := xm193) hP_193 rfl (fun x7 => ?_)
  refine xZ.callv (κ := oI) (av := []) (rest := []) (st' := fun x8 => [.int x8]) (k0 := x7) (me := xm193) hP_193 rfl (Or.inl rfl) ⟨rfl, by decide⟩ rfl rfl (Nat.le_of_ble_eq_true rfl) (by decide) hP_194 (Nat.le_of_ble_eq_true rfl) (fun _ => rfl) (k_f_Dates_mostAtOnce O f (d + 3) x7 M3) (fun x8 M4 => ?_)
  exact xZ.reti (me := xm193) hP_193 rfl rfl
def f_Meetings_placeOf_2 (O : Nat → Option va_E) (f : Nat) : Nat → Nat → Int32 → Int32 → Int32 → xM → Option (Int32 × xM)
  | 0, _, _, _, _, _ => none
  | n + 1, v0, v1, v2, v3, M =>
    (gI O M v0 5 0).bind fun x1 =>
    if x1 ≤ v3 then (
      some ((-1 : Int32), M)
    ) else
    if (256 : Int32) ≤ v3 then (
      some ((-1 : Int32), M)
    ) else
    (gR O M v0 5 1).bind fun x2 =>
    (aI O M x2 v3).bind fun x3 =>
    if x3 = v1 then (
      (gR O M v0 5 2).bind fun x4 =>
      (aI O M x4 v3).bind fun x5 =>
      if x5 = v2 then (
        some (v3, M)
      ) else
      f_Meetings_placeOf_2 O f n v0 v1 v2 (v3 + (1 : Int32)) M
    ) else
    f_Meetings_placeOf_2 O f n v0 v1 v2 (v3 + (1 : Int32)) M
set_option maxRecDepth 20000 in
theorem k_f_Meetings_placeOf_2 (O : Nat → Option va_E) (f d : Nat) : ∀ (n : Nat) (v0 : Nat) (v1 : Int32) (v2 : Int32) (v3 : Int32) (M : xM), xZ oI O (d + 0) 196 2 [(0, .ref v0), (1, .int v1), (2, .int v2), (3, .int v3)] [] M (f_Meetings_placeOf_2 O f n v0 v1 v2 v3 M) := by
  intro n
  induction n with
  | zero =>
    intro v0 v1 v2 v3 M
    exact xZ.no
  | succ n ih =>
    intro v0 v1 v2 v3 M
    unfold f_Meetings_placeOf_2
    refine xZ.adv (me := xm196) hP_196 2 (pc' := 4) (lv' := [(0, .ref v0), (1, .int v1), (2, .int v2), (3, .int v3)]) (st' := [.ref v0, .int v3]) rfl ?_
    refine xZ.k_gI (me := xm196) hP_196 rfl (fun x1 => ?_)
    refine xZ.ic_ge (me := xm196) hP_196 rfl (fun h1 => ?_) (fun h1 => ?_)
    · skip
      refine xZ.adv (me := xm196) hP_196 1 (pc' := 46) (lv' := [(0, .ref v0), (1, .int v1), (2, .int v2), (3, .int v3)]) (st' := [.int (-1 : Int32)]) rfl ?_
      exact xZ.reti (me := xm196) hP_196 rfl rfl
    · skip
      refine xZ.adv (me := xm196) hP_196 2 (pc' := 14) (lv' := [(0, .ref v0), (1, .int v1), (2, .int v2), (3, .int v3)]) (st' := [.int (256 : Int32), .int v3]) rfl ?_
      refine xZ.ic_ge (me := xm196) hP_196 rfl (fun h2 => ?_) (fun h2 => ?_)
      · skip
        refine xZ.adv (me := xm196) hP_196 1 (pc' := 46) (lv' := [(0, .ref v0), (1, .int v1), (2, .int v2), (3, .int v3)]) (st' := [.int (-1 : Int32)]) rfl ?_
        exact xZ.reti (me := xm196) hP_196 rfl rfl
      · skip
        refine xZ.adv (me := xm196) hP_196 1 (pc' := 18) (lv' := [(0, .ref v0), (1, .int v1), (2, .int v2), (3, .int v3)]) (st' := [.ref v0]) rfl ?_
        refine xZ.k_gR (me := xm196) hP_196 rfl (fun x2 => ?_)
        refine xZ.adv (me := xm196) hP_196 1 (pc' := 22) (lv' := [(0, .ref v0), (1, .int v1), (2, .int v2), (3, .int v3)]) (st' := [.int v3, .ref x2]) rfl ?_
        refine xZ.k_aI (me := xm196) hP_196 rfl (fun x3 => ?_)
        refine xZ.adv (me := xm196) hP_196 1 (pc' := 24) (lv' := [(0, .ref v0), (1, .int v1), (2, .int v2), (3, .int v3)]) (st' := [.int v1, .int x3]) rfl ?_
        refine xZ.ic_ne (me := xm196) hP_196 rfl (fun h3 => ?_) (fun h3 => ?_)
        · skip
          refine xZ.adv (me := xm196) hP_196 1 (pc' := 28) (lv' := [(0, .ref v0), (1, .int v1), (2, .int v2), (3, .int v3)]) (st' := [.ref v0]) rfl ?_
          refine xZ.k_gR (me := xm196) hP_196 rfl (fun x4 => ?_)
          refine xZ.adv (me := xm196) hP_196 1 (pc' := 32) (lv' := [(0, .ref v0), (1, .int v1), (2, .int v2), (3, .int v3)]) (st' := [.int v3, .ref x4]) rfl ?_
          refine xZ.k_aI (me := xm196) hP_196 rfl (fun x5 => ?_)
          refine xZ.adv (me := xm196) hP_196 1 (pc' := 34) (lv' := [(0, .ref v0), (1, .int v1), (2, .int v2), (3, .int v3)]) (st' := [.int v2, .int x5]) rfl ?_
          refine xZ.ic_ne (me := xm196) hP_196 rfl (fun h4 => ?_) (fun h4 => ?_)
          · skip
            refine xZ.adv (me := xm196) hP_196 1 (pc' := 38) (lv' := [(0, .ref v0), (1, .int v1), (2, .int v2), (3, .int v3)]) (st' := [.int v3]) rfl ?_
            exact xZ.reti (me := xm196) hP_196 rfl rfl
          · skip
            refine xZ.adv (me := xm196) hP_196 2 (pc' := 2) (lv' := [(3, .int (v3 + (1 : Int32))), (0, .ref v0), (1, .int v1), (2, .int v2)]) (st' := []) rfl ?_
            exact xZ.sub (xsc (.tail _ (.head _)) (xsc (.tail _ (.tail _ (.head _))) (xsc (.tail _ (.tail _ (.tail _ (.head _)))) (xsc (.head _) xsn)))) (show ([3, 0, 1, 2] : List Nat).Nodup from by decide) (ih v0 v1 v2 (v3 + (1 : Int32)) M)
        · skip
          refine xZ.adv (me := xm196) hP_196 2 (pc' := 2) (lv' := [(3, .int (v3 + (1 : Int32))), (0, .ref v0), (1, .int v1), (2, .int v2)]) (st' := []) rfl ?_
          exact xZ.sub (xsc (.tail _ (.head _)) (xsc (.tail _ (.tail _ (.head _))) (xsc (.tail _ (.tail _ (.tail _ (.head _)))) (xsc (.head _) xsn)))) (show ([3, 0, 1, 2] : List Nat).Nodup from by decide) (ih v0 v1 v2 (v3 + (1 : Int32)) M)
def f_Meetings_placeOf (O : Nat → Option va_E) (f : Nat) (v0 : Nat) (v1 : Int32) (v2 : Int32) (M : xM) : Option (Int32 × xM) :=
  f_Meetings_placeOf_2 O f f v0 v1 v2 (0 : Int32) M
set_option maxRecDepth 20000 in
theorem k_f_Meetings_placeOf (O : Nat → Option va_E) (f d : Nat) (v0 : Nat) (v1 : Int32) (v2 : Int32) (M : xM) : xZ oI O (d + 0) 196 0 [(0, .ref v0), (1, .int v1), (2, .int v2)] [] M (f_Meetings_placeOf O f v0 v1 v2 M) := by
  unfold f_Meetings_placeOf
  refine xZ.adv (me := xm196) hP_196 2 (pc' := 2) (lv' := [(3, .int (0 : Int32)), (0, .ref v0), (1, .int v1), (2, .int v2)]) (st' := []) rfl ?_
  exact xZ.sub (xsc (.tail _ (.head _)) (xsc (.tail _ (.tail _ (.head _))) (xsc (.tail _ (.tail _ (.tail _ (.head _)))) (xsc (.head _) xsn)))) (show ([3, 0, 1, 2] : List Nat).Nodup from by decide) (k_f_Meetings_placeOf_2 O f d f v0 v1 v2 (0 : Int32) M)
def f_Meetings_roomAt (O : Nat → Option va_E) (f : Nat) (v0 : Nat) (v1 : Int32) (M : xM) : Option (Int32 × xM) :=
  if v1 < 0 then (
    some ((-1 : Int32), M)
  ) else
  (gR O M v0 5 3).bind fun x1 =>
  (aN O M x1).bind fun x2 =>
  if x2 ≤ v1 then (
    some ((-1 : Int32), M)
  ) else
  (gR O M v0 5 3).bind fun x3 =>
  (aI O M x3 v1).bind fun x4 =>
  some (x4, M)
set_option maxRecDepth 20000 in
theorem k_f_Meetings_roomAt (O : Nat → Option va_E) (f d : Nat) (v0 : Nat) (v1 : Int32) (M : xM) : xZ oI O (d + 0) 197 0 [(0, .ref v0), (1, .int v1)] [] M (f_Meetings_roomAt O f v0 v1 M) := by
  unfold f_Meetings_roomAt
  refine xZ.adv (me := xm197) hP_197 1 (pc' := 1) (lv' := [(0, .ref v0), (1, .int v1)]) (st' := [.int v1]) rfl ?_
  refine xZ.if_lt (me := xm197) hP_197 rfl (fun h1 => ?_) (fun h1 => ?_)
  · skip
    refine xZ.adv (me := xm197) hP_197 1 (pc' := 23) (lv' := [(0, .ref v0), (1, .int v1)]) (st' := [.int (-1 : Int32)]) rfl ?_
    exact xZ.reti (me := xm197) hP_197 rfl rfl
  · skip
    refine xZ.adv (me := xm197) hP_197 2 (pc' := 6) (lv' := [(0, .ref v0), (1, .int v1)]) (st' := [.ref v0, .int v1]) rfl ?_
    refine xZ.k_gR (me := xm197) hP_197 rfl (fun x1 => ?_)
    refine xZ.k_aN (me := xm197) hP_197 rfl (fun x2 => ?_)
    refine xZ.ic_ge (me := xm197) hP_197 rfl (fun h2 => ?_) (fun h2 => ?_)
    · skip
      refine xZ.adv (me := xm197) hP_197 1 (pc' := 23) (lv' := [(0, .ref v0), (1, .int v1)]) (st' := [.int (-1 : Int32)]) rfl ?_
      exact xZ.reti (me := xm197) hP_197 rfl rfl
    · skip
      refine xZ.adv (me := xm197) hP_197 1 (pc' := 14) (lv' := [(0, .ref v0), (1, .int v1)]) (st' := [.ref v0]) rfl ?_
      refine xZ.k_gR (me := xm197) hP_197 rfl (fun x3 => ?_)
      refine xZ.adv (me := xm197) hP_197 1 (pc' := 18) (lv' := [(0, .ref v0), (1, .int v1)]) (st' := [.int v1, .ref x3]) rfl ?_
      refine xZ.k_aI (me := xm197) hP_197 rfl (fun x4 => ?_)
      refine xZ.adv (me := xm197) hP_197 1 (pc' := 23) (lv' := [(0, .ref v0), (1, .int v1)]) (st' := [.int x4]) rfl ?_
      exact xZ.reti (me := xm197) hP_197 rfl rfl
def f_Calendarhall_roomOf (O : Nat → Option va_E) (f : Nat) (v0 : Nat) (v1 : Int32) (v2 : Int32) (M : xM) : Option (Int32 × xM) :=
  (gR O M v0 12 5).bind fun x1 =>
  (isO O M x1 5).bind fun _ =>
  xcl (f_Meetings_placeOf O f x1 v1 v2 M) fun x2 M1 =>
  if x2 = (-1 : Int32) then (
    none
  ) else
  (gR O M1 v0 12 5).bind fun x3 =>
  (isO O M1 x3 5).bind fun _ =>
  xcl (f_Meetings_roomAt O f x3 x2 M1) fun x4 M2 =>
  some (x4, M2)
set_option maxRecDepth 20000 in
theorem k_f_Calendarhall_roomOf (O : Nat → Option va_E) (f d : Nat) (v0 : Nat) (v1 : Int32) (v2 : Int32) (M : xM) : xZ oI O (d + 1) 195 0 [(0, .ref v0), (1, .int v1), (2, .int v2)] [] M (f_Calendarhall_roomOf O f v0 v1 v2 M) := by
  unfold f_Calendarhall_roomOf
  refine xZ.adv (me := xm195) hP_195 1 (pc' := 1) (lv' := [(0, .ref v0), (1, .int v1), (2, .int v2)]) (st' := [.ref v0]) rfl ?_
  refine xZ.k_gR (me := xm195) hP_195 rfl (fun x1 => ?_)
  refine xZ.adv (me := xm195) hP_195 2 (pc' := 6) (lv' := [(0, .ref v0), (1, .int v1), (2, .int v2)]) (st' := [.int v2, .int v1, .ref x1]) rfl ?_
  refine xZ.callv (κ := oI) (av := [.int v1, .int v2]) (rest := []) (st' := fun x2 => [.int x2]) (k0 := x1) (me := xm195) hP_195 rfl (Or.inl rfl) ⟨rfl, by decide⟩ rfl rfl (Nat.le_of_ble_eq_true rfl) (by decide) hP_196 (Nat.le_of_ble_eq_true rfl) (fun _ => rfl) (k_f_Meetings_placeOf O f (d + 0) x1 v1 v2 M) (fun x2 M1 => ?_)
  refine xZ.adv (me := xm195) hP_195 3 (pc' := 12) (lv' := [(3, .int x2), (0, .ref v0), (1, .int v1), (2, .int v2)]) (st' := [.int (-1 : Int32), .int x2]) rfl ?_
  refine xZ.ic_ne (me := xm195) hP_195 rfl (fun h1 => ?_) (fun h1 => ?_)
  · skip
    exact xZ.no
  · skip
    refine xZ.adv (me := xm195) hP_195 1 (pc' := 24) (lv' := [(3, .int x2), (0, .ref v0), (1, .int v1), (2, .int v2)]) (st' := [.ref v0]) rfl ?_
    refine xZ.k_gR (me := xm195) hP_195 rfl (fun x3 => ?_)
    refine xZ.adv (me := xm195) hP_195 1 (pc' := 28) (lv' := [(3, .int x2), (0, .ref v0), (1, .int v1), (2, .int v2)]) (st' := [.int x2, .ref x3]) rfl ?_
    refine xZ.callv (κ := oI) (av := [.int x2]) (rest := []) (st' := fun x4 => [.int x4]) (k0 := x3) (me := xm195) hP_195 rfl (Or.inl rfl) ⟨rfl, by decide⟩ rfl rfl (Nat.le_of_ble_eq_true rfl) (by decide) hP_197 (Nat.le_of_ble_eq_true rfl) (fun _ => rfl) (k_f_Meetings_roomAt O f (d + 0) x3 x2 M1) (fun x4 M2 => ?_)
    exact xZ.reti (me := xm195) hP_195 rfl rfl
def f_Hall_buildingOf (O : Nat → Option va_E) (f : Nat) (v0 : Nat) (v1 : Int32) (M : xM) : Option (Int32 × xM) :=
  if v1 < 0 then (
    some ((0 : Int32), M)
  ) else
  (gR O M v0 4 2).bind fun x1 =>
  (aN O M x1).bind fun x2 =>
  if x2 ≤ v1 then (
    some ((0 : Int32), M)
  ) else
  (gR O M v0 4 2).bind fun x3 =>
  (aI O M x3 v1).bind fun x4 =>
  some (x4, M)
set_option maxRecDepth 20000 in
theorem k_f_Hall_buildingOf (O : Nat → Option va_E) (f d : Nat) (v0 : Nat) (v1 : Int32) (M : xM) : xZ oI O (d + 0) 201 0 [(0, .ref v0), (1, .int v1)] [] M (f_Hall_buildingOf O f v0 v1 M) := by
  unfold f_Hall_buildingOf
  refine xZ.adv (me := xm201) hP_201 1 (pc' := 1) (lv' := [(0, .ref v0), (1, .int v1)]) (st' := [.int v1]) rfl ?_
  refine xZ.if_lt (me := xm201) hP_201 rfl (fun h1 => ?_) (fun h1 => ?_)
  · skip
    refine xZ.adv (me := xm201) hP_201 1 (pc' := 23) (lv' := [(0, .ref v0), (1, .int v1)]) (st' := [.int (0 : Int32)]) rfl ?_
    exact xZ.reti (me := xm201) hP_201 rfl rfl
  · skip
    refine xZ.adv (me := xm201) hP_201 2 (pc' := 6) (lv' := [(0, .ref v0), (1, .int v1)]) (st' := [.ref v0, .int v1]) rfl ?_
    refine xZ.k_gR (me := xm201) hP_201 rfl (fun x1 => ?_)
    refine xZ.k_aN (me := xm201) hP_201 rfl (fun x2 => ?_)
    refine xZ.ic_ge (me := xm201) hP_201 rfl (fun h2 => ?_) (fun h2 => ?_)
    · skip
      refine xZ.adv (me := xm201) hP_201 1 (pc' := 23) (lv' := [(0, .ref v0), (1, .int v1)]) (st' := [.int (0 : Int32)]) rfl ?_
      exact xZ.reti (me := xm201) hP_201 rfl rfl
    · skip
      refine xZ.adv (me := xm201) hP_201 1 (pc' := 14) (lv' := [(0, .ref v0), (1, .int v1)]) (st' := [.ref v0]) rfl ?_
      refine xZ.k_gR (me := xm201) hP_201 rfl (fun x3 => ?_)
      refine xZ.adv (me := xm201) hP_201 1 (pc' := 18) (lv' := [(0, .ref v0), (1, .int v1)]) (st' := [.int v1, .ref x3]) rfl ?_
      refine xZ.k_aI (me := xm201) hP_201 rfl (fun x4 => ?_)
      refine xZ.adv (me := xm201) hP_201 1 (pc' := 23) (lv' := [(0, .ref v0), (1, .int v1)]) (st' := [.int x4]) rfl ?_
      exact xZ.reti (me := xm201) hP_201 rfl rfl
def f_Meetings_way (O : Nat → Option va_E) (f : Nat) (v0 : Nat) (v1 : Int32) (v2 : Int32) (M : xM) : Option (Int32 × xM) :=
  if v1 = (-1 : Int32) then (
    some ((0 : Int32), M)
  ) else
  if v2 = (-1 : Int32) then (
    some ((0 : Int32), M)
  ) else
  (isO O M v0 4).bind fun _ =>
  xcl (f_Hall_buildingOf O f v0 v1 M) fun x1 M1 =>
  (isO O M1 v0 4).bind fun _ =>
  xcl (f_Hall_buildingOf O f v0 v2 M1) fun x2 M2 =>
  xcl (f_Math_abs O f (x1 - x2) M2) fun x3 M3 =>
  some (((5 : Int32) * x3), M3)
set_option maxRecDepth 20000 in
theorem k_f_Meetings_way (O : Nat → Option va_E) (f d : Nat) (v0 : Nat) (v1 : Int32) (v2 : Int32) (M : xM) : xZ oI O (d + 1) 200 0 [(0, .ref v0), (1, .int v1), (2, .int v2)] [] M (f_Meetings_way O f v0 v1 v2 M) := by
  unfold f_Meetings_way
  refine xZ.adv (me := xm200) hP_200 2 (pc' := 2) (lv' := [(0, .ref v0), (1, .int v1), (2, .int v2)]) (st' := [.int (-1 : Int32), .int v1]) rfl ?_
  refine xZ.ic_eq (me := xm200) hP_200 rfl (fun h1 => ?_) (fun h1 => ?_)
  · skip
    refine xZ.adv (me := xm200) hP_200 1 (pc' := 11) (lv' := [(0, .ref v0), (1, .int v1), (2, .int v2)]) (st' := [.int (0 : Int32)]) rfl ?_
    exact xZ.reti (me := xm200) hP_200 rfl rfl
  · skip
    refine xZ.adv (me := xm200) hP_200 2 (pc' := 7) (lv' := [(0, .ref v0), (1, .int v1), (2, .int v2)]) (st' := [.int (-1 : Int32), .int v2]) rfl ?_
    refine xZ.ic_ne (me := xm200) hP_200 rfl (fun h2 => ?_) (fun h2 => ?_)
    · skip
      refine xZ.adv (me := xm200) hP_200 1 (pc' := 11) (lv' := [(0, .ref v0), (1, .int v1), (2, .int v2)]) (st' := [.int (0 : Int32)]) rfl ?_
      exact xZ.reti (me := xm200) hP_200 rfl rfl
    · skip
      refine xZ.adv (me := xm200) hP_200 3 (pc' := 15) (lv' := [(0, .ref v0), (1, .int v1), (2, .int v2)]) (st' := [.int v1, .ref v0, .int (5 : Int32)]) rfl ?_
      refine xZ.callv (κ := oI) (av := [.int v1]) (rest := [.int (5 : Int32)]) (st' := fun x1 => [.int x1, .int (5 : Int32)]) (k0 := v0) (me := xm200) hP_200 rfl (Or.inl rfl) ⟨rfl, by decide⟩ rfl rfl (Nat.le_of_ble_eq_true rfl) (by decide) hP_201 (Nat.le_of_ble_eq_true rfl) (fun _ => rfl) (k_f_Hall_buildingOf O f (d + 0) v0 v1 M) (fun x1 M1 => ?_)
      refine xZ.adv (me := xm200) hP_200 2 (pc' := 20) (lv' := [(0, .ref v0), (1, .int v1), (2, .int v2)]) (st' := [.int v2, .ref v0, .int x1, .int (5 : Int32)]) rfl ?_
      refine xZ.callv (κ := oI) (av := [.int v2]) (rest := [.int x1, .int (5 : Int32)]) (st' := fun x2 => [.int x2, .int x1, .int (5 : Int32)]) (k0 := v0) (me := xm200) hP_200 rfl (Or.inl rfl) ⟨rfl, by decide⟩ rfl rfl (Nat.le_of_ble_eq_true rfl) (by decide) hP_201 (Nat.le_of_ble_eq_true rfl) (fun _ => rfl) (k_f_Hall_buildingOf O f (d + 0) v0 v2 M1) (fun x2 M2 => ?_)
      refine xZ.adv (me := xm200) hP_200 1 (pc' := 24) (lv' := [(0, .ref v0), (1, .int v1), (2, .int v2)]) (st' := [.int (x1 - x2), .int (5 : Int32)]) rfl ?_
      refine xZ.calls (κ := oI) (av := [.int (x1 - x2)]) (rest := [.int (5 : Int32)]) (st' := fun x3 => [.int x3, .int (5 : Int32)]) (me := xm200) hP_200 rfl rfl rfl (Nat.le_of_ble_eq_true rfl) (by decide) hP_249 (Nat.le_of_ble_eq_true rfl) (fun _ => rfl) (k_f_Math_abs O f (d + 0) (x1 - x2) M2) (fun x3 M3 => ?_)
      refine xZ.adv (me := xm200) hP_200 1 (pc' := 28) (lv' := [(0, .ref v0), (1, .int v1), (2, .int v2)]) (st' := [.int ((5 : Int32) * x3)]) rfl ?_
      exact xZ.reti (me := xm200) hP_200 rfl rfl
def f_Meetings_keep (O : Nat → Option va_E) (f : Nat) (v0 : Nat) (v1 : Int32) (M : xM) : Option (Unit × xM) :=
  (gI O M v0 5 5).bind fun x1 =>
  if x1 < 0 then (
    some ((), M)
  ) else
  (gI O M v0 5 5).bind fun x2 =>
  (gR O M v0 5 8).bind fun x3 =>
  (aN O M x3).bind fun x4 =>
  if x2 < x4 then (
    (gR O M v0 5 8).bind fun x5 =>
    (gI O M v0 5 5).bind fun x6 =>
    (wI M x5 x6 v1).bind fun M1 =>
    (gI O M1 v0 5 5).bind fun x7 =>
    (pI M1 v0 5 5 (x7 + (1 : Int32))).bind fun M2 =>
    some ((), M2)
  ) else
  some ((), M)
set_option maxRecDepth 20000 in
theorem k_f_Meetings_keep (O : Nat → Option va_E) (f d : Nat) (v0 : Nat) (v1 : Int32) (M : xM) : xZ oU O (d + 0) 202 0 [(0, .ref v0), (1, .int v1)] [] M (f_Meetings_keep O f v0 v1 M) := by
  unfold f_Meetings_keep
  refine xZ.adv (me := xm202) hP_202 1 (pc' := 1) (lv' := [(0, .ref v0), (1, .int v1)]) (st' := [.ref v0]) rfl ?_
  refine xZ.k_gI (me := xm202) hP_202 rfl (fun x1 => ?_)
  refine xZ.if_lt (me := xm202) hP_202 rfl (fun h1 => ?_) (fun h1 => ?_)
  · skip
    exact xZ.retu (me := xm202) hP_202 rfl rfl
  · skip
    refine xZ.adv (me := xm202) hP_202 1 (pc' := 8) (lv' := [(0, .ref v0), (1, .int v1)]) (st' := [.ref v0]) rfl ?_
    refine xZ.k_gI (me := xm202) hP_202 rfl (fun x2 => ?_)
    refine xZ.adv (me := xm202) hP_202 1 (pc' := 12) (lv' := [(0, .ref v0), (1, .int v1)]) (st' := [.ref v0, .int x2]) rfl ?_
    refine xZ.k_gR (me := xm202) hP_202 rfl (fun x3 => ?_)
    refine xZ.k_aN (me := xm202) hP_202 rfl (fun x4 => ?_)
    refine xZ.ic_lt (me := xm202) hP_202 rfl (fun h2 => ?_) (fun h2 => ?_)
    · skip
      refine xZ.adv (me := xm202) hP_202 1 (pc' := 21) (lv' := [(0, .ref v0), (1, .int v1)]) (st' := [.ref v0]) rfl ?_
      refine xZ.k_gR (me := xm202) hP_202 rfl (fun x5 => ?_)
      refine xZ.adv (me := xm202) hP_202 1 (pc' := 25) (lv' := [(0, .ref v0), (1, .int v1)]) (st' := [.ref v0, .ref x5]) rfl ?_
      refine xZ.k_gI (me := xm202) hP_202 rfl (fun x6 => ?_)
      refine xZ.adv (me := xm202) hP_202 1 (pc' := 29) (lv' := [(0, .ref v0), (1, .int v1)]) (st' := [.int v1, .int x6, .ref x5]) rfl ?_
      refine xZ.k_wI (me := xm202) hP_202 rfl (fun M1 => ?_)
      refine xZ.adv (me := xm202) hP_202 2 (pc' := 32) (lv' := [(0, .ref v0), (1, .int v1)]) (st' := [.ref v0, .ref v0]) rfl ?_
      refine xZ.k_gI (me := xm202) hP_202 rfl (fun x7 => ?_)
      refine xZ.adv (me := xm202) hP_202 2 (pc' := 37) (lv' := [(0, .ref v0), (1, .int v1)]) (st' := [.int (x7 + (1 : Int32)), .ref v0]) rfl ?_
      refine xZ.k_pI (me := xm202) hP_202 rfl (fun M2 => ?_)
      exact xZ.retu (me := xm202) hP_202 rfl rfl
    · skip
      exact xZ.retu (me := xm202) hP_202 rfl rfl
def f_Meetings_findClashes_206 (O : Nat → Option va_E) (f : Nat) (v0 : Nat) (M : xM) : Option (Int32 × xM) :=
  (gI O M v0 5 5).bind fun x1 =>
  some (x1, M)
set_option maxRecDepth 20000 in
theorem k_f_Meetings_findClashes_206 (O : Nat → Option va_E) (f d : Nat) (v0 : Nat) (M : xM) : xZ oI O (d + 3) 199 206 [(0, .ref v0)] [] M (f_Meetings_findClashes_206 O f v0 M) := by
  unfold f_Meetings_findClashes_206
  refine xZ.adv (me := xm199) hP_199 1 (pc' := 207) (lv' := [(0, .ref v0)]) (st' := [.ref v0]) rfl ?_
  refine xZ.k_gI (me := xm199) hP_199 rfl (fun x1 => ?_)
  exact xZ.reti (me := xm199) hP_199 rfl rfl
def f_Meetings_findClashes_181 (O : Nat → Option va_E) (f : Nat) (K118 : Nat → Nat → Nat → Int32 → Int32 → Int32 → Int32 → xM → Option (Int32 × xM)) (v0 : Nat) (v1 : Nat) (v2 : Nat) (v3 : Int32) (v4 : Int32) (v5 : Int32) (v6 : Int32) (M : xM) : Option (Int32 × xM) :=
  (isO O M v0 5).bind fun _ =>
  xcl (f_Meetings_keep O f v0 ((v4 * (256 : Int32)) + v6) M) fun _ M1 =>
  K118 v0 v1 v2 v3 v4 v5 (v6 + (1 : Int32)) M1
set_option maxRecDepth 20000 in
theorem k_f_Meetings_findClashes_181 (O : Nat → Option va_E) (f d : Nat) (K118 : Nat → Nat → Nat → Int32 → Int32 → Int32 → Int32 → xM → Option (Int32 × xM)) (hK118 : ∀ (v0 : Nat) (v1 : Nat) (v2 : Nat) (v3 : Int32) (v4 : Int32) (v5 : Int32) (v6 : Int32) M, xZ oI O (d + 3) 199 118 [(0, .ref v0), (1, .ref v1), (2, .ref v2), (3, .int v3), (4, .int v4), (5, .int v5), (6, .int v6)] [] M (K118 v0 v1 v2 v3 v4 v5 v6 M)) (v0 : Nat) (v1 : Nat) (v2 : Nat) (v3 : Int32) (v4 : Int32) (v5 : Int32) (v6 : Int32) (M : xM) : xZ oI O (d + 3) 199 181 [(0, .ref v0), (1, .ref v1), (2, .ref v2), (3, .int v3), (4, .int v4), (5, .int v5), (6, .int v6)] [] M (f_Meetings_findClashes_181 O f K118 v0 v1 v2 v3 v4 v5 v6 M) := by
  unfold f_Meetings_findClashes_181
  refine xZ.adv (me := xm199) hP_199 6 (pc' := 191) (lv' := [(0, .ref v0), (1, .ref v1), (2, .ref v2), (3, .int v3), (4, .int v4), (5, .int v5), (6, .int v6)]) (st' := [.int ((v4 * (256 : Int32)) + v6), .ref v0]) rfl ?_
  refine xZ.callv (κ := oU) (av := [.int ((v4 * (256 : Int32)) + v6)]) (rest := []) (st' := fun _ => []) (k0 := v0) (me := xm199) hP_199 rfl (Or.inl rfl) ⟨rfl, by decide⟩ rfl rfl (Nat.le_of_ble_eq_true rfl) (by decide) hP_202 (Nat.le_of_ble_eq_true rfl) (fun _ => rfl) (k_f_Meetings_keep O f (d + 2) v0 ((v4 * (256 : Int32)) + v6) M) (fun _ M1 => ?_)
  refine xZ.adv (me := xm199) hP_199 2 (pc' := 118) (lv' := [(6, .int (v6 + (1 : Int32))), (0, .ref v0), (1, .ref v1), (2, .ref v2), (3, .int v3), (4, .int v4), (5, .int v5)]) (st' := []) rfl ?_
  exact xZ.sub (xsc (.tail _ (.head _)) (xsc (.tail _ (.tail _ (.head _))) (xsc (.tail _ (.tail _ (.tail _ (.head _)))) (xsc (.tail _ (.tail _ (.tail _ (.tail _ (.head _))))) (xsc (.tail _ (.tail _ (.tail _ (.tail _ (.tail _ (.head _)))))) (xsc (.tail _ (.tail _ (.tail _ (.tail _ (.tail _ (.tail _ (.head _))))))) (xsc (.head _) xsn))))))) (show ([6, 0, 1, 2, 3, 4, 5] : List Nat).Nodup from by decide) (hK118 v0 v1 v2 v3 v4 v5 (v6 + (1 : Int32)) M1)
def f_Meetings_findClashes_118 (O : Nat → Option va_E) (f : Nat) (K90 : Nat → Nat → Nat → Int32 → Int32 → xM → Option (Int32 × xM)) : Nat → Nat → Nat → Nat → Int32 → Int32 → Int32 → Int32 → xM → Option (Int32 × xM)
  | 0, _, _, _, _, _, _, _, _ => none
  | n + 1, v0, v1, v2, v3, v4, v5, v6, M =>
    if v3 ≤ v6 then (
      K90 v0 v1 v2 v3 (v4 + (1 : Int32)) M
    ) else
    if (256 : Int32) ≤ v6 then (
      K90 v0 v1 v2 v3 (v4 + (1 : Int32)) M
    ) else
    (isO O M v1 2).bind fun _ =>
    xcl (f_Dates_beginAt O f v1 v6 M) fun x1 M1 =>
    if (x1 - v5) < (45 : Int32) then (
      if (x1 - v5) < 0 then (
        f_Meetings_findClashes_181 O f (f_Meetings_findClashes_118 O f K90 n) v0 v1 v2 v3 v4 v5 v6 M1
      ) else
      (gR O M1 v0 5 7).bind fun x2 =>
      (aI O M1 x2 v4).bind fun x3 =>
      (gR O M1 v0 5 7).bind fun x4 =>
      (aI O M1 x4 v6).bind fun x5 =>
      xcl (f_Meetings_way O f v2 x3 x5 M1) fun x6 M2 =>
      if x6 ≤ (x1 - v5) then (
        f_Meetings_findClashes_118 O f K90 n v0 v1 v2 v3 v4 v5 (v6 + (1 : Int32)) M2
      ) else
      f_Meetings_findClashes_181 O f (f_Meetings_findClashes_118 O f K90 n) v0 v1 v2 v3 v4 v5 v6 M2
    ) else
    K90 v0 v1 v2 v3 (v4 + (1 : Int32)) M1
set_option maxRecDepth 20000 in
theorem k_f_Meetings_findClashes_118 (O : Nat → Option va_E) (f d : Nat) (K90 : Nat → Nat → Nat → Int32 → Int32 → xM → Option (Int32 × xM)) (hK90 : ∀ (v0 : Nat) (v1 : Nat) (v2 : Nat) (v3 : Int32) (v4 : Int32) M, xZ oI O (d + 3) 199 90 [(0, .ref v0), (1, .ref v1), (2, .ref v2), (3, .int v3), (4, .int v4)] [] M (K90 v0 v1 v2 v3 v4 M)) : ∀ (n : Nat) (v0 : Nat) (v1 : Nat) (v2 : Nat) (v3 : Int32) (v4 : Int32) (v5 : Int32) (v6 : Int32) (M : xM), xZ oI O (d + 3) 199 118 [(0, .ref v0), (1, .ref v1), (2, .ref v2), (3, .int v3), (4, .int v4), (5, .int v5), (6, .int v6)] [] M (f_Meetings_findClashes_118 O f K90 n v0 v1 v2 v3 v4 v5 v6 M) := by
  intro n
  induction n with
  | zero =>
    intro v0 v1 v2 v3 v4 v5 v6 M
    exact xZ.no
  | succ n ih =>
    intro v0 v1 v2 v3 v4 v5 v6 M
    unfold f_Meetings_findClashes_118
    refine xZ.adv (me := xm199) hP_199 2 (pc' := 121) (lv' := [(0, .ref v0), (1, .ref v1), (2, .ref v2), (3, .int v3), (4, .int v4), (5, .int v5), (6, .int v6)]) (st' := [.int v3, .int v6]) rfl ?_
    refine xZ.ic_ge (me := xm199) hP_199 rfl (fun h1 => ?_) (fun h1 => ?_)
    · skip
      refine xZ.adv (me := xm199) hP_199 2 (pc' := 90) (lv' := [(4, .int (v4 + (1 : Int32))), (0, .ref v0), (1, .ref v1), (2, .ref v2), (3, .int v3), (5, .int v5), (6, .int v6)]) (st' := []) rfl ?_
      exact xZ.sub (xsc (.tail _ (.head _)) (xsc (.tail _ (.tail _ (.head _))) (xsc (.tail _ (.tail _ (.tail _ (.head _)))) (xsc (.tail _ (.tail _ (.tail _ (.tail _ (.head _))))) (xsc (.head _) xsn))))) (show ([4, 0, 1, 2, 3, 5, 6] : List Nat).Nodup from by decide) (hK90 v0 v1 v2 v3 (v4 + (1 : Int32)) M)
    · skip
      refine xZ.adv (me := xm199) hP_199 2 (pc' := 129) (lv' := [(0, .ref v0), (1, .ref v1), (2, .ref v2), (3, .int v3), (4, .int v4), (5, .int v5), (6, .int v6)]) (st' := [.int (256 : Int32), .int v6]) rfl ?_
      refine xZ.ic_ge (me := xm199) hP_199 rfl (fun h2 => ?_) (fun h2 => ?_)
      · skip
        refine xZ.adv (me := xm199) hP_199 2 (pc' := 90) (lv' := [(4, .int (v4 + (1 : Int32))), (0, .ref v0), (1, .ref v1), (2, .ref v2), (3, .int v3), (5, .int v5), (6, .int v6)]) (st' := []) rfl ?_
        exact xZ.sub (xsc (.tail _ (.head _)) (xsc (.tail _ (.tail _ (.head _))) (xsc (.tail _ (.tail _ (.tail _ (.head _)))) (xsc (.tail _ (.tail _ (.tail _ (.tail _ (.head _))))) (xsc (.head _) xsn))))) (show ([4, 0, 1, 2, 3, 5, 6] : List Nat).Nodup from by decide) (hK90 v0 v1 v2 v3 (v4 + (1 : Int32)) M)
      · skip
        refine xZ.adv (me := xm199) hP_199 2 (pc' := 135) (lv' := [(0, .ref v0), (1, .ref v1), (2, .ref v2), (3, .int v3), (4, .int v4), (5, .int v5), (6, .int v6)]) (st' := [.int v6, .ref v1]) rfl ?_
        refine xZ.callv (κ := oI) (av := [.int v6]) (rest := []) (st' := fun x1 => [.int x1]) (k0 := v1) (me := xm199) hP_199 rfl (Or.inl rfl) ⟨rfl, by decide⟩ rfl rfl (Nat.le_of_ble_eq_true rfl) (by decide) hP_171 (Nat.le_of_ble_eq_true rfl) (fun _ => rfl) (k_f_Dates_beginAt O f (d + 1) v1 v6 M) (fun x1 M1 => ?_)
        refine xZ.adv (me := xm199) hP_199 5 (pc' := 147) (lv' := [(7, .int (x1 - v5)), (0, .ref v0), (1, .ref v1), (2, .ref v2), (3, .int v3), (4, .int v4), (5, .int v5), (6, .int v6)]) (st' := [.int (45 : Int32), .int (x1 - v5)]) rfl ?_
        refine xZ.ic_lt (me := xm199) hP_199 rfl (fun h3 => ?_) (fun h3 => ?_)
        · skip
          refine xZ.adv (me := xm199) hP_199 1 (pc' := 155) (lv' := [(7, .int (x1 - v5)), (0, .ref v0), (1, .ref v1), (2, .ref v2), (3, .int v3), (4, .int v4), (5, .int v5), (6, .int v6)]) (st' := [.int (x1 - v5)]) rfl ?_
          refine xZ.if_lt (me := xm199) hP_199 rfl (fun h4 => ?_) (fun h4 => ?_)
          · skip
            exact xZ.sub (xsc (.tail _ (.head _)) (xsc (.tail _ (.tail _ (.head _))) (xsc (.tail _ (.tail _ (.tail _ (.head _)))) (xsc (.tail _ (.tail _ (.tail _ (.tail _ (.head _))))) (xsc (.tail _ (.tail _ (.tail _ (.tail _ (.tail _ (.head _)))))) (xsc (.tail _ (.tail _ (.tail _ (.tail _ (.tail _ (.tail _ (.head _))))))) (xsc (.tail _ (.tail _ (.tail _ (.tail _ (.tail _ (.tail _ (.tail _ (.head _)))))))) xsn))))))) (show ([7, 0, 1, 2, 3, 4, 5, 6] : List Nat).Nodup from by decide) (k_f_Meetings_findClashes_181 O f d (f_Meetings_findClashes_118 O f K90 n) ih v0 v1 v2 v3 v4 v5 v6 M1)
          · skip
            refine xZ.adv (me := xm199) hP_199 3 (pc' := 162) (lv' := [(7, .int (x1 - v5)), (0, .ref v0), (1, .ref v1), (2, .ref v2), (3, .int v3), (4, .int v4), (5, .int v5), (6, .int v6)]) (st' := [.ref v0, .ref v2, .int (x1 - v5)]) rfl ?_
            refine xZ.k_gR (me := xm199) hP_199 rfl (fun x2 => ?_)
            refine xZ.adv (me := xm199) hP_199 1 (pc' := 167) (lv' := [(7, .int (x1 - v5)), (0, .ref v0), (1, .ref v1), (2, .ref v2), (3, .int v3), (4, .int v4), (5, .int v5), (6, .int v6)]) (st' := [.int v4, .ref x2, .ref v2, .int (x1 - v5)]) rfl ?_
            refine xZ.k_aI (me := xm199) hP_199 rfl (fun x3 => ?_)
            refine xZ.adv (me := xm199) hP_199 1 (pc' := 169) (lv' := [(7, .int (x1 - v5)), (0, .ref v0), (1, .ref v1), (2, .ref v2), (3, .int v3), (4, .int v4), (5, .int v5), (6, .int v6)]) (st' := [.ref v0, .int x3, .ref v2, .int (x1 - v5)]) rfl ?_
            refine xZ.k_gR (me := xm199) hP_199 rfl (fun x4 => ?_)
            refine xZ.adv (me := xm199) hP_199 1 (pc' := 174) (lv' := [(7, .int (x1 - v5)), (0, .ref v0), (1, .ref v1), (2, .ref v2), (3, .int v3), (4, .int v4), (5, .int v5), (6, .int v6)]) (st' := [.int v6, .ref x4, .int x3, .ref v2, .int (x1 - v5)]) rfl ?_
            refine xZ.k_aI (me := xm199) hP_199 rfl (fun x5 => ?_)
            refine xZ.calls (κ := oI) (av := [.ref v2, .int x3, .int x5]) (rest := [.int (x1 - v5)]) (st' := fun x6 => [.int x6, .int (x1 - v5)]) (me := xm199) hP_199 rfl rfl rfl (Nat.le_of_ble_eq_true rfl) (by decide) hP_200 (Nat.le_of_ble_eq_true rfl) (fun _ => rfl) (k_f_Meetings_way O f (d + 1) v2 x3 x5 M1) (fun x6 M2 => ?_)
            refine xZ.ic_ge (me := xm199) hP_199 rfl (fun h5 => ?_) (fun h5 => ?_)
            · skip
              refine xZ.adv (me := xm199) hP_199 2 (pc' := 118) (lv' := [(6, .int (v6 + (1 : Int32))), (7, .int (x1 - v5)), (0, .ref v0), (1, .ref v1), (2, .ref v2), (3, .int v3), (4, .int v4), (5, .int v5)]) (st' := []) rfl ?_
              exact xZ.sub (xsc (.tail _ (.tail _ (.head _))) (xsc (.tail _ (.tail _ (.tail _ (.head _)))) (xsc (.tail _ (.tail _ (.tail _ (.tail _ (.head _))))) (xsc (.tail _ (.tail _ (.tail _ (.tail _ (.tail _ (.head _)))))) (xsc (.tail _ (.tail _ (.tail _ (.tail _ (.tail _ (.tail _ (.head _))))))) (xsc (.tail _ (.tail _ (.tail _ (.tail _ (.tail _ (.tail _ (.tail _ (.head _)))))))) (xsc (.head _) xsn))))))) (show ([6, 7, 0, 1, 2, 3, 4, 5] : List Nat).Nodup from by decide) (ih v0 v1 v2 v3 v4 v5 (v6 + (1 : Int32)) M2)
            · skip
              exact xZ.sub (xsc (.tail _ (.head _)) (xsc (.tail _ (.tail _ (.head _))) (xsc (.tail _ (.tail _ (.tail _ (.head _)))) (xsc (.tail _ (.tail _ (.tail _ (.tail _ (.head _))))) (xsc (.tail _ (.tail _ (.tail _ (.tail _ (.tail _ (.head _)))))) (xsc (.tail _ (.tail _ (.tail _ (.tail _ (.tail _ (.tail _ (.head _))))))) (xsc (.tail _ (.tail _ (.tail _ (.tail _ (.tail _ (.tail _ (.tail _ (.head _)))))))) xsn))))))) (show ([7, 0, 1, 2, 3, 4, 5, 6] : List Nat).Nodup from by decide) (k_f_Meetings_findClashes_181 O f d (f_Meetings_findClashes_118 O f K90 n) ih v0 v1 v2 v3 v4 v5 v6 M2)
        · skip
          refine xZ.adv (me := xm199) hP_199 3 (pc' := 90) (lv' := [(4, .int (v4 + (1 : Int32))), (7, .int (x1 - v5)), (0, .ref v0), (1, .ref v1), (2, .ref v2), (3, .int v3), (5, .int v5), (6, .int v6)]) (st' := []) rfl ?_
          exact xZ.sub (xsc (.tail _ (.tail _ (.head _))) (xsc (.tail _ (.tail _ (.tail _ (.head _)))) (xsc (.tail _ (.tail _ (.tail _ (.tail _ (.head _))))) (xsc (.tail _ (.tail _ (.tail _ (.tail _ (.tail _ (.head _)))))) (xsc (.head _) xsn))))) (show ([4, 7, 0, 1, 2, 3, 5, 6] : List Nat).Nodup from by decide) (hK90 v0 v1 v2 v3 (v4 + (1 : Int32)) M1)
def f_Meetings_findClashes_90 (O : Nat → Option va_E) (f : Nat) : Nat → Nat → Nat → Nat → Int32 → Int32 → xM → Option (Int32 × xM)
  | 0, _, _, _, _, _, _ => none
  | n + 1, v0, v1, v2, v3, v4, M =>
    if v3 ≤ v4 then (
      f_Meetings_findClashes_206 O f v0 M
    ) else
    if (256 : Int32) ≤ v4 then (
      f_Meetings_findClashes_206 O f v0 M
    ) else
    (isO O M v1 2).bind fun _ =>
    xcl (f_Dates_endAt O f v1 v4 M) fun x1 M1 =>
    f_Meetings_findClashes_118 O f (f_Meetings_findClashes_90 O f n) f v0 v1 v2 v3 v4 x1 (v4 + (1 : Int32)) M1
set_option maxRecDepth 20000 in
theorem k_f_Meetings_findClashes_90 (O : Nat → Option va_E) (f d : Nat) : ∀ (n : Nat) (v0 : Nat) (v1 : Nat) (v2 : Nat) (v3 : Int32) (v4 : Int32) (M : xM), xZ oI O (d + 3) 199 90 [(0, .ref v0), (1, .ref v1), (2, .ref v2), (3, .int v3), (4, .int v4)] [] M (f_Meetings_findClashes_90 O f n v0 v1 v2 v3 v4 M) := by
  intro n
  induction n with
  | zero =>
    intro v0 v1 v2 v3 v4 M
    exact xZ.no
  | succ n ih =>
    intro v0 v1 v2 v3 v4 M
    unfold f_Meetings_findClashes_90
    refine xZ.adv (me := xm199) hP_199 2 (pc' := 93) (lv' := [(0, .ref v0), (1, .ref v1), (2, .ref v2), (3, .int v3), (4, .int v4)]) (st' := [.int v3, .int v4]) rfl ?_
    refine xZ.ic_ge (me := xm199) hP_199 rfl (fun h1 => ?_) (fun h1 => ?_)
    · skip
      exact xZ.sub (xsc (.head _) xsn) (show ([0, 1, 2, 3, 4] : List Nat).Nodup from by decide) (k_f_Meetings_findClashes_206 O f d v0 M)
    · skip
      refine xZ.adv (me := xm199) hP_199 2 (pc' := 101) (lv' := [(0, .ref v0), (1, .ref v1), (2, .ref v2), (3, .int v3), (4, .int v4)]) (st' := [.int (256 : Int32), .int v4]) rfl ?_
      refine xZ.ic_ge (me := xm199) hP_199 rfl (fun h2 => ?_) (fun h2 => ?_)
      · skip
        exact xZ.sub (xsc (.head _) xsn) (show ([0, 1, 2, 3, 4] : List Nat).Nodup from by decide) (k_f_Meetings_findClashes_206 O f d v0 M)
      · skip
        refine xZ.adv (me := xm199) hP_199 2 (pc' := 107) (lv' := [(0, .ref v0), (1, .ref v1), (2, .ref v2), (3, .int v3), (4, .int v4)]) (st' := [.int v4, .ref v1]) rfl ?_
        refine xZ.callv (κ := oI) (av := [.int v4]) (rest := []) (st' := fun x1 => [.int x1]) (k0 := v1) (me := xm199) hP_199 rfl (Or.inl rfl) ⟨rfl, by decide⟩ rfl rfl (Nat.le_of_ble_eq_true rfl) (by decide) hP_170 (Nat.le_of_ble_eq_true rfl) (fun _ => rfl) (k_f_Dates_endAt O f (d + 0) v1 v4 M) (fun x1 M1 => ?_)
        refine xZ.adv (me := xm199) hP_199 5 (pc' := 118) (lv' := [(6, .int (v4 + (1 : Int32))), (5, .int x1), (0, .ref v0), (1, .ref v1), (2, .ref v2), (3, .int v3), (4, .int v4)]) (st' := []) rfl ?_
        exact xZ.sub (xsc (.tail _ (.tail _ (.head _))) (xsc (.tail _ (.tail _ (.tail _ (.head _)))) (xsc (.tail _ (.tail _ (.tail _ (.tail _ (.head _))))) (xsc (.tail _ (.tail _ (.tail _ (.tail _ (.tail _ (.head _)))))) (xsc (.tail _ (.tail _ (.tail _ (.tail _ (.tail _ (.tail _ (.head _))))))) (xsc (.tail _ (.head _)) (xsc (.head _) xsn))))))) (show ([6, 5, 0, 1, 2, 3, 4] : List Nat).Nodup from by decide) (k_f_Meetings_findClashes_118 O f d (f_Meetings_findClashes_90 O f n) ih f v0 v1 v2 v3 v4 x1 (v4 + (1 : Int32)) M1)
def f_Meetings_findClashes_87 (O : Nat → Option va_E) (f : Nat) (v0 : Nat) (v1 : Nat) (v2 : Nat) (v3 : Int32) (M : xM) : Option (Int32 × xM) :=
  f_Meetings_findClashes_90 O f f v0 v1 v2 v3 (0 : Int32) M
set_option maxRecDepth 20000 in
theorem k_f_Meetings_findClashes_87 (O : Nat → Option va_E) (f d : Nat) (v0 : Nat) (v1 : Nat) (v2 : Nat) (v3 : Int32) (M : xM) : xZ oI O (d + 3) 199 87 [(0, .ref v0), (1, .ref v1), (2, .ref v2), (3, .int v3)] [] M (f_Meetings_findClashes_87 O f v0 v1 v2 v3 M) := by
  unfold f_Meetings_findClashes_87
  refine xZ.adv (me := xm199) hP_199 2 (pc' := 90) (lv' := [(4, .int (0 : Int32)), (0, .ref v0), (1, .ref v1), (2, .ref v2), (3, .int v3)]) (st' := []) rfl ?_
  exact xZ.sub (xsc (.tail _ (.head _)) (xsc (.tail _ (.tail _ (.head _))) (xsc (.tail _ (.tail _ (.tail _ (.head _)))) (xsc (.tail _ (.tail _ (.tail _ (.tail _ (.head _))))) (xsc (.head _) xsn))))) (show ([4, 0, 1, 2, 3] : List Nat).Nodup from by decide) (k_f_Meetings_findClashes_90 O f d f v0 v1 v2 v3 (0 : Int32) M)
def f_Meetings_findClashes_19 (O : Nat → Option va_E) (f : Nat) : Nat → Nat → Nat → Nat → Int32 → Int32 → xM → Option (Int32 × xM)
  | 0, _, _, _, _, _, _ => none
  | n + 1, v0, v1, v2, v3, v4, M =>
    if v3 ≤ v4 then (
      f_Meetings_findClashes_87 O f v0 v1 v2 v3 M
    ) else
    if (256 : Int32) ≤ v4 then (
      f_Meetings_findClashes_87 O f v0 v1 v2 v3 M
    ) else
    (gR O M v0 5 6).bind fun x1 =>
    (isO O M v1 2).bind fun _ =>
    xcl (f_Dates_rowAt O f v1 v4 M) fun x2 M1 =>
    (wL M1 x1 v4 x2).bind fun M2 =>
    (gR O M2 v0 5 7).bind fun x3 =>
    (gR O M2 v0 5 6).bind fun x4 =>
    (aL O M2 x4 v4).bind fun x5 =>
    xcl (f_Dates_numberOf O f x5 M2) fun x6 M3 =>
    (gR O M3 v0 5 6).bind fun x7 =>
    (aL O M3 x7 v4).bind fun x8 =>
    xcl (f_Dates_dayIn O f x8 M3) fun x9 M4 =>
    (isO O M4 v0 5).bind fun _ =>
    xcl (f_Meetings_placeOf O f v0 x6 x9 M4) fun x10 M5 =>
    (isO O M5 v0 5).bind fun _ =>
    xcl (f_Meetings_roomAt O f v0 x10 M5) fun x11 M6 =>
    (wI M6 x3 v4 x11).bind fun M7 =>
    f_Meetings_findClashes_19 O f n v0 v1 v2 v3 (v4 + (1 : Int32)) M7
set_option maxRecDepth 20000 in
theorem k_f_Meetings_findClashes_19 (O : Nat → Option va_E) (f d : Nat) : ∀ (n : Nat) (v0 : Nat) (v1 : Nat) (v2 : Nat) (v3 : Int32) (v4 : Int32) (M : xM), xZ oI O (d + 3) 199 19 [(0, .ref v0), (1, .ref v1), (2, .ref v2), (3, .int v3), (4, .int v4)] [] M (f_Meetings_findClashes_19 O f n v0 v1 v2 v3 v4 M) := by
  intro n
  induction n with
  | zero =>
    intro v0 v1 v2 v3 v4 M
    exact xZ.no
  | succ n ih =>
    intro v0 v1 v2 v3 v4 M
    unfold f_Meetings_findClashes_19
    refine xZ.adv (me := xm199) hP_199 2 (pc' := 22) (lv' := [(0, .ref v0), (1, .ref v1), (2, .ref v2), (3, .int v3), (4, .int v4)]) (st' := [.int v3, .int v4]) rfl ?_
    refine xZ.ic_ge (me := xm199) hP_199 rfl (fun h1 => ?_) (fun h1 => ?_)
    · skip
      exact xZ.sub (xsc (.head _) (xsc (.tail _ (.head _)) (xsc (.tail _ (.tail _ (.head _))) (xsc (.tail _ (.tail _ (.tail _ (.head _)))) xsn)))) (show ([0, 1, 2, 3, 4] : List Nat).Nodup from by decide) (k_f_Meetings_findClashes_87 O f d v0 v1 v2 v3 M)
    · skip
      refine xZ.adv (me := xm199) hP_199 2 (pc' := 30) (lv' := [(0, .ref v0), (1, .ref v1), (2, .ref v2), (3, .int v3), (4, .int v4)]) (st' := [.int (256 : Int32), .int v4]) rfl ?_
      refine xZ.ic_ge (me := xm199) hP_199 rfl (fun h2 => ?_) (fun h2 => ?_)
      · skip
        exact xZ.sub (xsc (.head _) (xsc (.tail _ (.head _)) (xsc (.tail _ (.tail _ (.head _))) (xsc (.tail _ (.tail _ (.tail _ (.head _)))) xsn)))) (show ([0, 1, 2, 3, 4] : List Nat).Nodup from by decide) (k_f_Meetings_findClashes_87 O f d v0 v1 v2 v3 M)
      · skip
        refine xZ.adv (me := xm199) hP_199 1 (pc' := 34) (lv' := [(0, .ref v0), (1, .ref v1), (2, .ref v2), (3, .int v3), (4, .int v4)]) (st' := [.ref v0]) rfl ?_
        refine xZ.k_gR (me := xm199) hP_199 rfl (fun x1 => ?_)
        refine xZ.adv (me := xm199) hP_199 3 (pc' := 42) (lv' := [(0, .ref v0), (1, .ref v1), (2, .ref v2), (3, .int v3), (4, .int v4)]) (st' := [.int v4, .ref v1, .int v4, .ref x1]) rfl ?_
        refine xZ.callv (κ := oL) (av := [.int v4]) (rest := [.int v4, .ref x1]) (st' := fun x2 => [.long x2, .int v4, .ref x1]) (k0 := v1) (me := xm199) hP_199 rfl (Or.inl rfl) ⟨rfl, by decide⟩ rfl rfl (Nat.le_of_ble_eq_true rfl) (by decide) hP_167 (Nat.le_of_ble_eq_true rfl) (fun _ => rfl) (k_f_Dates_rowAt O f (d + 2) v1 v4 M) (fun x2 M1 => ?_)
        refine xZ.k_wL (me := xm199) hP_199 rfl (fun M2 => ?_)
        refine xZ.adv (me := xm199) hP_199 1 (pc' := 47) (lv' := [(0, .ref v0), (1, .ref v1), (2, .ref v2), (3, .int v3), (4, .int v4)]) (st' := [.ref v0]) rfl ?_
        refine xZ.k_gR (me := xm199) hP_199 rfl (fun x3 => ?_)
        refine xZ.adv (me := xm199) hP_199 4 (pc' := 55) (lv' := [(0, .ref v0), (1, .ref v1), (2, .ref v2), (3, .int v3), (4, .int v4)]) (st' := [.ref v0, .ref v0, .ref v0, .int v4, .ref x3]) rfl ?_
        refine xZ.k_gR (me := xm199) hP_199 rfl (fun x4 => ?_)
        refine xZ.adv (me := xm199) hP_199 1 (pc' := 60) (lv' := [(0, .ref v0), (1, .ref v1), (2, .ref v2), (3, .int v3), (4, .int v4)]) (st' := [.int v4, .ref x4, .ref v0, .ref v0, .int v4, .ref x3]) rfl ?_
        refine xZ.k_aL (me := xm199) hP_199 rfl (fun x5 => ?_)
        refine xZ.calls (κ := oI) (av := [.long x5]) (rest := [.ref v0, .ref v0, .int v4, .ref x3]) (st' := fun x6 => [.int x6, .ref v0, .ref v0, .int v4, .ref x3]) (me := xm199) hP_199 rfl rfl rfl (Nat.le_of_ble_eq_true rfl) (by decide) hP_174 (Nat.le_of_ble_eq_true rfl) (fun _ => rfl) (k_f_Dates_numberOf O f (d + 2) x5 M2) (fun x6 M3 => ?_)
        refine xZ.adv (me := xm199) hP_199 1 (pc' := 65) (lv' := [(0, .ref v0), (1, .ref v1), (2, .ref v2), (3, .int v3), (4, .int v4)]) (st' := [.ref v0, .int x6, .ref v0, .ref v0, .int v4, .ref x3]) rfl ?_
        refine xZ.k_gR (me := xm199) hP_199 rfl (fun x7 => ?_)
        refine xZ.adv (me := xm199) hP_199 1 (pc' := 70) (lv' := [(0, .ref v0), (1, .ref v1), (2, .ref v2), (3, .int v3), (4, .int v4)]) (st' := [.int v4, .ref x7, .int x6, .ref v0, .ref v0, .int v4, .ref x3]) rfl ?_
        refine xZ.k_aL (me := xm199) hP_199 rfl (fun x8 => ?_)
        refine xZ.calls (κ := oI) (av := [.long x8]) (rest := [.int x6, .ref v0, .ref v0, .int v4, .ref x3]) (st' := fun x9 => [.int x9, .int x6, .ref v0, .ref v0, .int v4, .ref x3]) (me := xm199) hP_199 rfl rfl rfl (Nat.le_of_ble_eq_true rfl) (by decide) hP_123 (Nat.le_of_ble_eq_true rfl) (fun _ => rfl) (k_f_Dates_dayIn O f (d + 2) x8 M3) (fun x9 M4 => ?_)
        refine xZ.callv (κ := oI) (av := [.int x6, .int x9]) (rest := [.ref v0, .int v4, .ref x3]) (st' := fun x10 => [.int x10, .ref v0, .int v4, .ref x3]) (k0 := v0) (me := xm199) hP_199 rfl (Or.inl rfl) ⟨rfl, by decide⟩ rfl rfl (Nat.le_of_ble_eq_true rfl) (by decide) hP_196 (Nat.le_of_ble_eq_true rfl) (fun _ => rfl) (k_f_Meetings_placeOf O f (d + 2) v0 x6 x9 M4) (fun x10 M5 => ?_)
        refine xZ.callv (κ := oI) (av := [.int x10]) (rest := [.int v4, .ref x3]) (st' := fun x11 => [.int x11, .int v4, .ref x3]) (k0 := v0) (me := xm199) hP_199 rfl (Or.inl rfl) ⟨rfl, by decide⟩ rfl rfl (Nat.le_of_ble_eq_true rfl) (by decide) hP_197 (Nat.le_of_ble_eq_true rfl) (fun _ => rfl) (k_f_Meetings_roomAt O f (d + 2) v0 x10 M5) (fun x11 M6 => ?_)
        refine xZ.k_wI (me := xm199) hP_199 rfl (fun M7 => ?_)
        refine xZ.adv (me := xm199) hP_199 2 (pc' := 19) (lv' := [(4, .int (v4 + (1 : Int32))), (0, .ref v0), (1, .ref v1), (2, .ref v2), (3, .int v3)]) (st' := []) rfl ?_
        exact xZ.sub (xsc (.tail _ (.head _)) (xsc (.tail _ (.tail _ (.head _))) (xsc (.tail _ (.tail _ (.tail _ (.head _)))) (xsc (.tail _ (.tail _ (.tail _ (.tail _ (.head _))))) (xsc (.head _) xsn))))) (show ([4, 0, 1, 2, 3] : List Nat).Nodup from by decide) (ih v0 v1 v2 v3 (v4 + (1 : Int32)) M7)
def f_Meetings_findClashes (O : Nat → Option va_E) (f : Nat) (v0 : Nat) (v1 : Nat) (v2 : Nat) (M : xM) : Option (Int32 × xM) :=
  (gI O M v1 2 0).bind fun x1 =>
  xcl (f_Math_min O f x1 (256 : Int32) M) fun x2 M1 =>
  (pI M1 v0 5 5 (0 : Int32)).bind fun M2 =>
  f_Meetings_findClashes_19 O f f v0 v1 v2 x2 (0 : Int32) M2
set_option maxRecDepth 20000 in
theorem k_f_Meetings_findClashes (O : Nat → Option va_E) (f d : Nat) (v0 : Nat) (v1 : Nat) (v2 : Nat) (M : xM) : xZ oI O (d + 3) 199 0 [(0, .ref v0), (1, .ref v1), (2, .ref v2)] [] M (f_Meetings_findClashes O f v0 v1 v2 M) := by
  unfold f_Meetings_findClashes
  refine xZ.adv (me := xm199) hP_199 1 (pc' := 1) (lv' := [(0, .ref v0), (1, .ref v1), (2, .ref v2)]) (st' := [.ref v1]) rfl ?_
  refine xZ.k_gI (me := xm199) hP_199 rfl (fun x1 => ?_)
  refine xZ.adv (me := xm199) hP_199 1 (pc' := 7) (lv' := [(0, .ref v0), (1, .ref v1), (2, .ref v2)]) (st' := [.int (256 : Int32), .int x1]) rfl ?_
  refine xZ.calls (κ := oI) (av := [.int x1, .int (256 : Int32)]) (rest := []) (st' := fun x2 => [.int x2]) (me := xm199) hP_199 rfl rfl rfl (Nat.le_of_ble_eq_true rfl) (by decide) hP_248 (Nat.le_of_ble_eq_true rfl) (fun _ => rfl) (k_f_Math_min O f (d + 2) x1 (256 : Int32) M) (fun x2 M1 => ?_)
  refine xZ.adv (me := xm199) hP_199 3 (pc' := 13) (lv' := [(3, .int x2), (0, .ref v0), (1, .ref v1), (2, .ref v2)]) (st' := [.int (0 : Int32), .ref v0]) rfl ?_
  refine xZ.k_pI (me := xm199) hP_199 rfl (fun M2 => ?_)
  refine xZ.adv (me := xm199) hP_199 2 (pc' := 19) (lv' := [(4, .int (0 : Int32)), (3, .int x2), (0, .ref v0), (1, .ref v1), (2, .ref v2)]) (st' := []) rfl ?_
  exact xZ.sub (xsc (.tail _ (.tail _ (.head _))) (xsc (.tail _ (.tail _ (.tail _ (.head _)))) (xsc (.tail _ (.tail _ (.tail _ (.tail _ (.head _))))) (xsc (.tail _ (.head _)) (xsc (.head _) xsn))))) (show ([4, 3, 0, 1, 2] : List Nat).Nodup from by decide) (k_f_Meetings_findClashes_19 O f d f v0 v1 v2 x2 (0 : Int32) M2)
def f_Calendarhall_clashes (O : Nat → Option va_E) (f : Nat) (v0 : Nat) (v1 : Int32) (v2 : Int32) (v3 : Int32) (M : xM) : Option (Int32 × xM) :=
  (isO O M v0 12).bind fun _ =>
  xcl (f_Calendarhall_personNumbered O f v0 v1 M) fun x1 M1 =>
  xcl (f_Calendarhall_needPiece O f v2 v3 (10080 : Int32) M1) fun _ M2 =>
  (gR O M2 v0 12 0).bind fun x3 =>
  (gR O M2 v0 12 4).bind fun x4 =>
  (gR O M2 v0 12 0).bind fun x5 =>
  (isO O M2 x5 4).bind fun _ =>
  xcl (f_Hall_seriesOf O f x5 ((1 : Int32) <<< (v1 &&& 31)) M2) fun x6 M3 =>
  (isO O M3 x3 4).bind fun _ =>
  xcl (f_Hall_collect O f x3 x4 x6 v2 v3 M3) fun _ M4 =>
  (gR O M4 v0 12 5).bind fun x8 =>
  (gR O M4 v0 12 4).bind fun x9 =>
  (gR O M4 v0 12 0).bind fun x10 =>
  (isO O M4 x8 5).bind fun _ =>
  xcl (f_Meetings_findClashes O f x8 x9 x10 M4) fun x11 M5 =>
  some (x11, M5)
set_option maxRecDepth 20000 in
theorem k_f_Calendarhall_clashes (O : Nat → Option va_E) (f d : Nat) (v0 : Nat) (v1 : Int32) (v2 : Int32) (v3 : Int32) (M : xM) : xZ oI O (d + 7) 198 0 [(0, .ref v0), (1, .int v1), (2, .int v2), (3, .int v3)] [] M (f_Calendarhall_clashes O f v0 v1 v2 v3 M) := by
  unfold f_Calendarhall_clashes
  refine xZ.adv (me := xm198) hP_198 2 (pc' := 2) (lv' := [(0, .ref v0), (1, .int v1), (2, .int v2), (3, .int v3)]) (st' := [.int v1, .ref v0]) rfl ?_
  refine xZ.callv (κ := oR) (av := [.int v1]) (rest := []) (st' := fun x1 => [.ref x1]) (k0 := v0) (me := xm198) hP_198 rfl (Or.inl rfl) ⟨rfl, by decide⟩ rfl rfl (Nat.le_of_ble_eq_true rfl) (by decide) hP_148 (Nat.le_of_ble_eq_true rfl) (fun _ => rfl) (k_f_Calendarhall_personNumbered O f (d + 5) v0 v1 M) (fun x1 M1 => ?_)
  refine xZ.adv (me := xm198) hP_198 4 (pc' := 11) (lv' := [(0, .ref v0), (1, .int v1), (2, .int v2), (3, .int v3)]) (st' := [.int (10080 : Int32), .int v3, .int v2]) rfl ?_
  refine xZ.calls (κ := oU) (av := [.int v2, .int v3, .int (10080 : Int32)]) (rest := []) (st' := fun _ => []) (me := xm198) hP_198 rfl rfl rfl (Nat.le_of_ble_eq_true rfl) (by decide) hP_114 (Nat.le_of_ble_eq_true rfl) (fun _ => rfl) (k_f_Calendarhall_needPiece O f (d + 5) v2 v3 (10080 : Int32) M1) (fun _ M2 => ?_)
  refine xZ.adv (me := xm198) hP_198 1 (pc' := 15) (lv' := [(0, .ref v0), (1, .int v1), (2, .int v2), (3, .int v3)]) (st' := [.ref v0]) rfl ?_
  refine xZ.k_gR (me := xm198) hP_198 rfl (fun x3 => ?_)
  refine xZ.adv (me := xm198) hP_198 1 (pc' := 19) (lv' := [(0, .ref v0), (1, .int v1), (2, .int v2), (3, .int v3)]) (st' := [.ref v0, .ref x3]) rfl ?_
  refine xZ.k_gR (me := xm198) hP_198 rfl (fun x4 => ?_)
  refine xZ.adv (me := xm198) hP_198 1 (pc' := 23) (lv' := [(0, .ref v0), (1, .int v1), (2, .int v2), (3, .int v3)]) (st' := [.ref v0, .ref x4, .ref x3]) rfl ?_
  refine xZ.k_gR (me := xm198) hP_198 rfl (fun x5 => ?_)
  refine xZ.adv (me := xm198) hP_198 3 (pc' := 29) (lv' := [(0, .ref v0), (1, .int v1), (2, .int v2), (3, .int v3)]) (st' := [.int ((1 : Int32) <<< (v1 &&& 31)), .ref x5, .ref x4, .ref x3]) rfl ?_
  refine xZ.callv (κ := oI) (av := [.int ((1 : Int32) <<< (v1 &&& 31))]) (rest := [.ref x4, .ref x3]) (st' := fun x6 => [.int x6, .ref x4, .ref x3]) (k0 := x5) (me := xm198) hP_198 rfl (Or.inl rfl) ⟨rfl, by decide⟩ rfl rfl (Nat.le_of_ble_eq_true rfl) (by decide) hP_158 (Nat.le_of_ble_eq_true rfl) (fun _ => rfl) (k_f_Hall_seriesOf O f (d + 5) x5 ((1 : Int32) <<< (v1 &&& 31)) M2) (fun x6 M3 => ?_)
  refine xZ.adv (me := xm198) hP_198 2 (pc' := 34) (lv' := [(0, .ref v0), (1, .int v1), (2, .int v2), (3, .int v3)]) (st' := [.int v3, .int v2, .int x6, .ref x4, .ref x3]) rfl ?_
  refine xZ.callv (κ := oU) (av := [.ref x4, .int x6, .int v2, .int v3]) (rest := []) (st' := fun _ => []) (k0 := x3) (me := xm198) hP_198 rfl (Or.inl rfl) ⟨rfl, by decide⟩ rfl rfl (Nat.le_of_ble_eq_true rfl) (by decide) hP_190 (Nat.le_of_ble_eq_true rfl) (fun _ => rfl) (k_f_Hall_collect O f (d + 0) x3 x4 x6 v2 v3 M3) (fun _ M4 => ?_)
  refine xZ.adv (me := xm198) hP_198 1 (pc' := 38) (lv' := [(0, .ref v0), (1, .int v1), (2, .int v2), (3, .int v3)]) (st' := [.ref v0]) rfl ?_
  refine xZ.k_gR (me := xm198) hP_198 rfl (fun x8 => ?_)
  refine xZ.adv (me := xm198) hP_198 1 (pc' := 42) (lv' := [(0, .ref v0), (1, .int v1), (2, .int v2), (3, .int v3)]) (st' := [.ref v0, .ref x8]) rfl ?_
  refine xZ.k_gR (me := xm198) hP_198 rfl (fun x9 => ?_)
  refine xZ.adv (me := xm198) hP_198 1 (pc' := 46) (lv' := [(0, .ref v0), (1, .int v1), (2, .int v2), (3, .int v3)]) (st' := [.ref v0, .ref x9, .ref x8]) rfl ?_
  refine xZ.k_gR (me := xm198) hP_198 rfl (fun x10 => ?_)
  refine xZ.callv (κ := oI) (av := [.ref x9, .ref x10]) (rest := []) (st' := fun x11 => [.int x11]) (k0 := x8) (me := xm198) hP_198 rfl (Or.inl rfl) ⟨rfl, by decide⟩ rfl rfl (Nat.le_of_ble_eq_true rfl) (by decide) hP_199 (Nat.le_of_ble_eq_true rfl) (fun _ => rfl) (k_f_Meetings_findClashes O f (d + 3) x8 x9 x10 M4) (fun x11 M5 => ?_)
  exact xZ.reti (me := xm198) hP_198 rfl rfl
def f_Law_areLaid_747 (O : Nat → Option va_E) (f : Nat) (K510 : Nat → Nat → Int32 → Int32 → Nat → Nat → Int32 → Int32 → Int32 → Int32 → xM → Option (Int32 × xM)) (v0 : Nat) (v4 : Nat) (v5 : Int32) (v6 : Int32) (v7 : Nat) (v10 : Nat) (v11 : Int32) (v13 : Int32) (v14 : Int32) (s0 : Int32) (s1 : Int32) (M : xM) : Option (Int32 × xM) :=
  K510 v0 v4 v5 v6 v7 v10 v11 (s0 + s1) v13 (v14 + (1 : Int32)) M
set_option maxRecDepth 20000 in
theorem k_f_Law_areLaid_747 (O : Nat → Option va_E) (f d : Nat) (K510 : Nat → Nat → Int32 → Int32 → Nat → Nat → Int32 → Int32 → Int32 → Int32 → xM → Option (Int32 × xM)) (hK510 : ∀ (v0 : Nat) (v4 : Nat) (v5 : Int32) (v6 : Int32) (v7 : Nat) (v10 : Nat) (v11 : Int32) (v12 : Int32) (v13 : Int32) (v14 : Int32) M, xZ oI O (d + 9) 186 510 [(0, .ref v0), (4, .ref v4), (5, .int v5), (6, .int v6), (7, .ref v7), (10, .ref v10), (11, .int v11), (12, .int v12), (13, .int v13), (14, .int v14)] [] M (K510 v0 v4 v5 v6 v7 v10 v11 v12 v13 v14 M)) (v0 : Nat) (v4 : Nat) (v5 : Int32) (v6 : Int32) (v7 : Nat) (v10 : Nat) (v11 : Int32) (v13 : Int32) (v14 : Int32) (s0 : Int32) (s1 : Int32) (M : xM) : xZ oI O (d + 9) 186 747 [(0, .ref v0), (4, .ref v4), (5, .int v5), (6, .int v6), (7, .ref v7), (10, .ref v10), (11, .int v11), (13, .int v13), (14, .int v14)] [.int s1, .int s0] M (f_Law_areLaid_747 O f K510 v0 v4 v5 v6 v7 v10 v11 v13 v14 s0 s1 M) := by
  unfold f_Law_areLaid_747
  refine xZ.adv (me := xm186) hP_186 4 (pc' := 510) (lv' := [(14, .int (v14 + (1 : Int32))), (12, .int (s0 + s1)), (0, .ref v0), (4, .ref v4), (5, .int v5), (6, .int v6), (7, .ref v7), (10, .ref v10), (11, .int v11), (13, .int v13)]) (st' := []) rfl ?_
  exact xZ.sub (xsc (.tail _ (.tail _ (.head _))) (xsc (.tail _ (.tail _ (.tail _ (.head _)))) (xsc (.tail _ (.tail _ (.tail _ (.tail _ (.head _))))) (xsc (.tail _ (.tail _ (.tail _ (.tail _ (.tail _ (.head _)))))) (xsc (.tail _ (.tail _ (.tail _ (.tail _ (.tail _ (.tail _ (.head _))))))) (xsc (.tail _ (.tail _ (.tail _ (.tail _ (.tail _ (.tail _ (.tail _ (.head _)))))))) (xsc (.tail _ (.tail _ (.tail _ (.tail _ (.tail _ (.tail _ (.tail _ (.tail _ (.head _))))))))) (xsc (.tail _ (.head _)) (xsc (.tail _ (.tail _ (.tail _ (.tail _ (.tail _ (.tail _ (.tail _ (.tail _ (.tail _ (.head _)))))))))) (xsc (.head _) xsn)))))))))) (show ([14, 12, 0, 4, 5, 6, 7, 10, 11, 13] : List Nat).Nodup from by decide) (hK510 v0 v4 v5 v6 v7 v10 v11 (s0 + s1) v13 (v14 + (1 : Int32)) M)
def f_Law_areLaid_742 (O : Nat → Option va_E) (f : Nat) (K510 : Nat → Nat → Int32 → Int32 → Nat → Nat → Int32 → Int32 → Int32 → Int32 → xM → Option (Int32 × xM)) (v0 : Nat) (v4 : Nat) (v5 : Int32) (v6 : Int32) (v7 : Nat) (v10 : Nat) (v11 : Int32) (v13 : Int32) (v14 : Int32) (s0 : Int32) (M : xM) : Option (Int32 × xM) :=
  f_Law_areLaid_747 O f K510 v0 v4 v5 v6 v7 v10 v11 v13 v14 s0 (1 : Int32) M
set_option maxRecDepth 20000 in
theorem k_f_Law_areLaid_742 (O : Nat → Option va_E) (f d : Nat) (K510 : Nat → Nat → Int32 → Int32 → Nat → Nat → Int32 → Int32 → Int32 → Int32 → xM → Option (Int32 × xM)) (hK510 : ∀ (v0 : Nat) (v4 : Nat) (v5 : Int32) (v6 : Int32) (v7 : Nat) (v10 : Nat) (v11 : Int32) (v12 : Int32) (v13 : Int32) (v14 : Int32) M, xZ oI O (d + 9) 186 510 [(0, .ref v0), (4, .ref v4), (5, .int v5), (6, .int v6), (7, .ref v7), (10, .ref v10), (11, .int v11), (12, .int v12), (13, .int v13), (14, .int v14)] [] M (K510 v0 v4 v5 v6 v7 v10 v11 v12 v13 v14 M)) (v0 : Nat) (v4 : Nat) (v5 : Int32) (v6 : Int32) (v7 : Nat) (v10 : Nat) (v11 : Int32) (v13 : Int32) (v14 : Int32) (s0 : Int32) (M : xM) : xZ oI O (d + 9) 186 742 [(0, .ref v0), (4, .ref v4), (5, .int v5), (6, .int v6), (7, .ref v7), (10, .ref v10), (11, .int v11), (13, .int v13), (14, .int v14)] [.int s0] M (f_Law_areLaid_742 O f K510 v0 v4 v5 v6 v7 v10 v11 v13 v14 s0 M) := by
  unfold f_Law_areLaid_742
  refine xZ.adv (me := xm186) hP_186 2 (pc' := 747) (lv' := [(0, .ref v0), (4, .ref v4), (5, .int v5), (6, .int v6), (7, .ref v7), (10, .ref v10), (11, .int v11), (13, .int v13), (14, .int v14)]) (st' := [.int (1 : Int32), .int s0]) rfl ?_
  exact (k_f_Law_areLaid_747 O f d K510 hK510 v0 v4 v5 v6 v7 v10 v11 v13 v14 s0 (1 : Int32) M)
def f_Law_areLaid_726 (O : Nat → Option va_E) (f : Nat) (K510 : Nat → Nat → Int32 → Int32 → Nat → Nat → Int32 → Int32 → Int32 → Int32 → xM → Option (Int32 × xM)) (v0 : Nat) (v4 : Nat) (v5 : Int32) (v6 : Int32) (v7 : Nat) (v10 : Nat) (v11 : Int32) (v12 : Int32) (v13 : Int32) (v14 : Int32) (v16 : Int32) (s0 : Int32) (M : xM) : Option (Int32 × xM) :=
  if v16 < 0 then (
    f_Law_areLaid_742 O f K510 v0 v4 v5 v6 v7 v10 v11 v13 v14 v12 M
  ) else
  if s0 ≤ v16 then (
    f_Law_areLaid_747 O f K510 v0 v4 v5 v6 v7 v10 v11 v13 v14 v12 (0 : Int32) M
  ) else
  f_Law_areLaid_742 O f K510 v0 v4 v5 v6 v7 v10 v11 v13 v14 v12 M
set_option maxRecDepth 20000 in
theorem k_f_Law_areLaid_726 (O : Nat → Option va_E) (f d : Nat) (K510 : Nat → Nat → Int32 → Int32 → Nat → Nat → Int32 → Int32 → Int32 → Int32 → xM → Option (Int32 × xM)) (hK510 : ∀ (v0 : Nat) (v4 : Nat) (v5 : Int32) (v6 : Int32) (v7 : Nat) (v10 : Nat) (v11 : Int32) (v12 : Int32) (v13 : Int32) (v14 : Int32) M, xZ oI O (d + 9) 186 510 [(0, .ref v0), (4, .ref v4), (5, .int v5), (6, .int v6), (7, .ref v7), (10, .ref v10), (11, .int v11), (12, .int v12), (13, .int v13), (14, .int v14)] [] M (K510 v0 v4 v5 v6 v7 v10 v11 v12 v13 v14 M)) (v0 : Nat) (v4 : Nat) (v5 : Int32) (v6 : Int32) (v7 : Nat) (v10 : Nat) (v11 : Int32) (v12 : Int32) (v13 : Int32) (v14 : Int32) (v16 : Int32) (s0 : Int32) (M : xM) : xZ oI O (d + 9) 186 726 [(0, .ref v0), (4, .ref v4), (5, .int v5), (6, .int v6), (7, .ref v7), (10, .ref v10), (11, .int v11), (12, .int v12), (13, .int v13), (14, .int v14), (16, .int v16)] [.int s0] M (f_Law_areLaid_726 O f K510 v0 v4 v5 v6 v7 v10 v11 v12 v13 v14 v16 s0 M) := by
  unfold f_Law_areLaid_726
  refine xZ.adv (me := xm186) hP_186 3 (pc' := 732) (lv' := [(17, .int s0), (0, .ref v0), (4, .ref v4), (5, .int v5), (6, .int v6), (7, .ref v7), (10, .ref v10), (11, .int v11), (12, .int v12), (13, .int v13), (14, .int v14), (16, .int v16)]) (st' := [.int v16, .int v12]) rfl ?_
  refine xZ.if_lt (me := xm186) hP_186 rfl (fun h1 => ?_) (fun h1 => ?_)
  · skip
    exact xZ.sub (xsc (.tail _ (.head _)) (xsc (.tail _ (.tail _ (.head _))) (xsc (.tail _ (.tail _ (.tail _ (.head _)))) (xsc (.tail _ (.tail _ (.tail _ (.tail _ (.head _))))) (xsc (.tail _ (.tail _ (.tail _ (.tail _ (.tail _ (.head _)))))) (xsc (.tail _ (.tail _ (.tail _ (.tail _ (.tail _ (.tail _ (.head _))))))) (xsc (.tail _ (.tail _ (.tail _ (.tail _ (.tail _ (.tail _ (.tail _ (.head _)))))))) (xsc (.tail _ (.tail _ (.tail _ (.tail _ (.tail _ (.tail _ (.tail _ (.tail _ (.tail _ (.head _)))))))))) (xsc (.tail _ (.tail _ (.tail _ (.tail _ (.tail _ (.tail _ (.tail _ (.tail _ (.tail _ (.tail _ (.head _))))))))))) xsn))))))))) (show ([17, 0, 4, 5, 6, 7, 10, 11, 12, 13, 14, 16] : List Nat).Nodup from by decide) (k_f_Law_areLaid_742 O f d K510 hK510 v0 v4 v5 v6 v7 v10 v11 v13 v14 v12 M)
  · skip
    refine xZ.adv (me := xm186) hP_186 2 (pc' := 739) (lv' := [(17, .int s0), (0, .ref v0), (4, .ref v4), (5, .int v5), (6, .int v6), (7, .ref v7), (10, .ref v10), (11, .int v11), (12, .int v12), (13, .int v13), (14, .int v14), (16, .int v16)]) (st' := [.int s0, .int v16, .int v12]) rfl ?_
    refine xZ.ic_ge (me := xm186) hP_186 rfl (fun h2 => ?_) (fun h2 => ?_)
    · skip
      refine xZ.adv (me := xm186) hP_186 1 (pc' := 747) (lv' := [(17, .int s0), (0, .ref v0), (4, .ref v4), (5, .int v5), (6, .int v6), (7, .ref v7), (10, .ref v10), (11, .int v11), (12, .int v12), (13, .int v13), (14, .int v14), (16, .int v16)]) (st' := [.int (0 : Int32), .int v12]) rfl ?_
      exact xZ.sub (xsc (.tail _ (.head _)) (xsc (.tail _ (.tail _ (.head _))) (xsc (.tail _ (.tail _ (.tail _ (.head _)))) (xsc (.tail _ (.tail _ (.tail _ (.tail _ (.head _))))) (xsc (.tail _ (.tail _ (.tail _ (.tail _ (.tail _ (.head _)))))) (xsc (.tail _ (.tail _ (.tail _ (.tail _ (.tail _ (.tail _ (.head _))))))) (xsc (.tail _ (.tail _ (.tail _ (.tail _ (.tail _ (.tail _ (.tail _ (.head _)))))))) (xsc (.tail _ (.tail _ (.tail _ (.tail _ (.tail _ (.tail _ (.tail _ (.tail _ (.tail _ (.head _)))))))))) (xsc (.tail _ (.tail _ (.tail _ (.tail _ (.tail _ (.tail _ (.tail _ (.tail _ (.tail _ (.tail _ (.head _))))))))))) xsn))))))))) (show ([17, 0, 4, 5, 6, 7, 10, 11, 12, 13, 14, 16] : List Nat).Nodup from by decide) (k_f_Law_areLaid_747 O f d K510 hK510 v0 v4 v5 v6 v7 v10 v11 v13 v14 v12 (0 : Int32) M)
    · skip
      exact xZ.sub (xsc (.tail _ (.head _)) (xsc (.tail _ (.tail _ (.head _))) (xsc (.tail _ (.tail _ (.tail _ (.head _)))) (xsc (.tail _ (.tail _ (.tail _ (.tail _ (.head _))))) (xsc (.tail _ (.tail _ (.tail _ (.tail _ (.tail _ (.head _)))))) (xsc (.tail _ (.tail _ (.tail _ (.tail _ (.tail _ (.tail _ (.head _))))))) (xsc (.tail _ (.tail _ (.tail _ (.tail _ (.tail _ (.tail _ (.tail _ (.head _)))))))) (xsc (.tail _ (.tail _ (.tail _ (.tail _ (.tail _ (.tail _ (.tail _ (.tail _ (.tail _ (.head _)))))))))) (xsc (.tail _ (.tail _ (.tail _ (.tail _ (.tail _ (.tail _ (.tail _ (.tail _ (.tail _ (.tail _ (.head _))))))))))) xsn))))))))) (show ([17, 0, 4, 5, 6, 7, 10, 11, 12, 13, 14, 16] : List Nat).Nodup from by decide) (k_f_Law_areLaid_742 O f d K510 hK510 v0 v4 v5 v6 v7 v10 v11 v13 v14 v12 M)
def f_Law_areLaid_700 (O : Nat → Option va_E) (f : Nat) (K510 : Nat → Nat → Int32 → Int32 → Nat → Nat → Int32 → Int32 → Int32 → Int32 → xM → Option (Int32 × xM)) (v0 : Nat) (v4 : Nat) (v5 : Int32) (v6 : Int32) (v7 : Nat) (v10 : Nat) (v11 : Int32) (v12 : Int32) (v13 : Int32) (v14 : Int32) (v16 : Int32) (M : xM) : Option (Int32 × xM) :=
  f_Law_areLaid_726 O f K510 v0 v4 v5 v6 v7 v10 v11 v12 v13 v14 v16 (0 : Int32) M
set_option maxRecDepth 20000 in
theorem k_f_Law_areLaid_700 (O : Nat → Option va_E) (f d : Nat) (K510 : Nat → Nat → Int32 → Int32 → Nat → Nat → Int32 → Int32 → Int32 → Int32 → xM → Option (Int32 × xM)) (hK510 : ∀ (v0 : Nat) (v4 : Nat) (v5 : Int32) (v6 : Int32) (v7 : Nat) (v10 : Nat) (v11 : Int32) (v12 : Int32) (v13 : Int32) (v14 : Int32) M, xZ oI O (d + 9) 186 510 [(0, .ref v0), (4, .ref v4), (5, .int v5), (6, .int v6), (7, .ref v7), (10, .ref v10), (11, .int v11), (12, .int v12), (13, .int v13), (14, .int v14)] [] M (K510 v0 v4 v5 v6 v7 v10 v11 v12 v13 v14 M)) (v0 : Nat) (v4 : Nat) (v5 : Int32) (v6 : Int32) (v7 : Nat) (v10 : Nat) (v11 : Int32) (v12 : Int32) (v13 : Int32) (v14 : Int32) (v16 : Int32) (M : xM) : xZ oI O (d + 9) 186 700 [(0, .ref v0), (4, .ref v4), (5, .int v5), (6, .int v6), (7, .ref v7), (10, .ref v10), (11, .int v11), (12, .int v12), (13, .int v13), (14, .int v14), (16, .int v16)] [] M (f_Law_areLaid_700 O f K510 v0 v4 v5 v6 v7 v10 v11 v12 v13 v14 v16 M) := by
  unfold f_Law_areLaid_700
  refine xZ.adv (me := xm186) hP_186 2 (pc' := 726) (lv' := [(0, .ref v0), (4, .ref v4), (5, .int v5), (6, .int v6), (7, .ref v7), (10, .ref v10), (11, .int v11), (12, .int v12), (13, .int v13), (14, .int v14), (16, .int v16)]) (st' := [.int (0 : Int32)]) rfl ?_
  exact (k_f_Law_areLaid_726 O f d K510 hK510 v0 v4 v5 v6 v7 v10 v11 v12 v13 v14 v16 (0 : Int32) M)
def f_Law_areLaid_620 (O : Nat → Option va_E) (f : Nat) (K510 : Nat → Nat → Int32 → Int32 → Nat → Nat → Int32 → Int32 → Int32 → Int32 → xM → Option (Int32 × xM)) (v0 : Nat) (v4 : Nat) (v5 : Int32) (v6 : Int32) (v7 : Nat) (v10 : Nat) (v11 : Int32) (v12 : Int32) (v13 : Int32) (v14 : Int32) (s0 : Int32) (M : xM) : Option (Int32 × xM) :=
  if s0 = 0 then (
    K510 v0 v4 v5 v6 v7 v10 v11 v12 v13 (v14 + (1 : Int32)) M
  ) else
  (gR O M v7 13 0).bind fun x1 =>
  (aI O M x1 v14).bind fun x2 =>
  xcl (f_Law_takesPart O f v0 x2 v11 M) fun x3 M1 =>
  if x3 = 0 then (
    K510 v0 v4 v5 v6 v7 v10 v11 v12 v13 (v14 + (1 : Int32)) M1
  ) else
  (gR O M1 v7 13 0).bind fun x4 =>
  (aI O M1 x4 v13).bind fun x5 =>
  xcl (f_Law_takesPart O f v0 x5 v11 M1) fun x6 M2 =>
  if x6 = 0 then (
    K510 v0 v4 v5 v6 v7 v10 v11 v12 v13 (v14 + (1 : Int32)) M2
  ) else
  (gR O M2 v7 13 2).bind fun x7 =>
  (aI O M2 x7 v13).bind fun x8 =>
  (isO O M2 v7 13).bind fun _ =>
  xcl (f_LDates_end O f v7 v14 M2) fun x9 M3 =>
  (aI O M3 v10 v14).bind fun x10 =>
  if x10 = (-1 : Int32) then (
    f_Law_areLaid_700 O f K510 v0 v4 v5 v6 v7 v10 v11 v12 v13 v14 (x8 - x9) M3
  ) else
  (aI O M3 v10 v13).bind fun x11 =>
  if x11 = (-1 : Int32) then (
    f_Law_areLaid_700 O f K510 v0 v4 v5 v6 v7 v10 v11 v12 v13 v14 (x8 - x9) M3
  ) else
  (aI O M3 v10 v14).bind fun x12 =>
  (aI O M3 v4 x12).bind fun x13 =>
  (aI O M3 v10 v13).bind fun x14 =>
  (aI O M3 v4 x14).bind fun x15 =>
  xcl (f_Math_abs O f (x13 - x15) M3) fun x16 M4 =>
  f_Law_areLaid_726 O f K510 v0 v4 v5 v6 v7 v10 v11 v12 v13 v14 (x8 - x9) ((5 : Int32) * x16) M4
set_option maxRecDepth 20000 in
theorem k_f_Law_areLaid_620 (O : Nat → Option va_E) (f d : Nat) (K510 : Nat → Nat → Int32 → Int32 → Nat → Nat → Int32 → Int32 → Int32 → Int32 → xM → Option (Int32 × xM)) (hK510 : ∀ (v0 : Nat) (v4 : Nat) (v5 : Int32) (v6 : Int32) (v7 : Nat) (v10 : Nat) (v11 : Int32) (v12 : Int32) (v13 : Int32) (v14 : Int32) M, xZ oI O (d + 9) 186 510 [(0, .ref v0), (4, .ref v4), (5, .int v5), (6, .int v6), (7, .ref v7), (10, .ref v10), (11, .int v11), (12, .int v12), (13, .int v13), (14, .int v14)] [] M (K510 v0 v4 v5 v6 v7 v10 v11 v12 v13 v14 M)) (v0 : Nat) (v4 : Nat) (v5 : Int32) (v6 : Int32) (v7 : Nat) (v10 : Nat) (v11 : Int32) (v12 : Int32) (v13 : Int32) (v14 : Int32) (s0 : Int32) (M : xM) : xZ oI O (d + 9) 186 620 [(0, .ref v0), (4, .ref v4), (5, .int v5), (6, .int v6), (7, .ref v7), (10, .ref v10), (11, .int v11), (12, .int v12), (13, .int v13), (14, .int v14)] [.int s0] M (f_Law_areLaid_620 O f K510 v0 v4 v5 v6 v7 v10 v11 v12 v13 v14 s0 M) := by
  unfold f_Law_areLaid_620
  refine xZ.adv (me := xm186) hP_186 2 (pc' := 624) (lv' := [(15, .int s0), (0, .ref v0), (4, .ref v4), (5, .int v5), (6, .int v6), (7, .ref v7), (10, .ref v10), (11, .int v11), (12, .int v12), (13, .int v13), (14, .int v14)]) (st' := [.int s0]) rfl ?_
  refine xZ.if_eq (me := xm186) hP_186 rfl (fun h1 => ?_) (fun h1 => ?_)
  · skip
    refine xZ.adv (me := xm186) hP_186 2 (pc' := 510) (lv' := [(14, .int (v14 + (1 : Int32))), (15, .int s0), (0, .ref v0), (4, .ref v4), (5, .int v5), (6, .int v6), (7, .ref v7), (10, .ref v10), (11, .int v11), (12, .int v12), (13, .int v13)]) (st' := []) rfl ?_
    exact xZ.sub (xsc (.tail _ (.tail _ (.head _))) (xsc (.tail _ (.tail _ (.tail _ (.head _)))) (xsc (.tail _ (.tail _ (.tail _ (.tail _ (.head _))))) (xsc (.tail _ (.tail _ (.tail _ (.tail _ (.tail _ (.head _)))))) (xsc (.tail _ (.tail _ (.tail _ (.tail _ (.tail _ (.tail _ (.head _))))))) (xsc (.tail _ (.tail _ (.tail _ (.tail _ (.tail _ (.tail _ (.tail _ (.head _)))))))) (xsc (.tail _ (.tail _ (.tail _ (.tail _ (.tail _ (.tail _ (.tail _ (.tail _ (.head _))))))))) (xsc (.tail _ (.tail _ (.tail _ (.tail _ (.tail _ (.tail _ (.tail _ (.tail _ (.tail _ (.head _)))))))))) (xsc (.tail _ (.tail _ (.tail _ (.tail _ (.tail _ (.tail _ (.tail _ (.tail _ (.tail _ (.tail _ (.head _))))))))))) (xsc (.head _) xsn)))))))))) (show ([14, 15, 0, 4, 5, 6, 7, 10, 11, 12, 13] : List Nat).Nodup from by decide) (hK510 v0 v4 v5 v6 v7 v10 v11 v12 v13 (v14 + (1 : Int32)) M)
  · skip
    refine xZ.adv (me := xm186) hP_186 2 (pc' := 630) (lv' := [(15, .int s0), (0, .ref v0), (4, .ref v4), (5, .int v5), (6, .int v6), (7, .ref v7), (10, .ref v10), (11, .int v11), (12, .int v12), (13, .int v13), (14, .int v14)]) (st' := [.ref v7, .ref v0]) rfl ?_
    refine xZ.k_gR (me := xm186) hP_186 rfl (fun x1 => ?_)
    refine xZ.adv (me := xm186) hP_186 1 (pc' := 635) (lv' := [(15, .int s0), (0, .ref v0), (4, .ref v4), (5, .int v5), (6, .int v6), (7, .ref v7), (10, .ref v10), (11, .int v11), (12, .int v12), (13, .int v13), (14, .int v14)]) (st' := [.int v14, .ref x1, .ref v0]) rfl ?_
    refine xZ.k_aI (me := xm186) hP_186 rfl (fun x2 => ?_)
    refine xZ.adv (me := xm186) hP_186 1 (pc' := 638) (lv' := [(15, .int s0), (0, .ref v0), (4, .ref v4), (5, .int v5), (6, .int v6), (7, .ref v7), (10, .ref v10), (11, .int v11), (12, .int v12), (13, .int v13), (14, .int v14)]) (st' := [.int v11, .int x2, .ref v0]) rfl ?_
    refine xZ.calls (κ := oI) (av := [.ref v0, .int x2, .int v11]) (rest := []) (st' := fun x3 => [.int x3]) (me := xm186) hP_186 rfl rfl rfl (Nat.le_of_ble_eq_true rfl) (by decide) hP_155 (Nat.le_of_ble_eq_true rfl) (fun _ => rfl) (k_f_Law_takesPart O f (d + 5) v0 x2 v11 M) (fun x3 M1 => ?_)
    refine xZ.if_eq (me := xm186) hP_186 rfl (fun h2 => ?_) (fun h2 => ?_)
    · skip
      refine xZ.adv (me := xm186) hP_186 2 (pc' := 510) (lv' := [(14, .int (v14 + (1 : Int32))), (15, .int s0), (0, .ref v0), (4, .ref v4), (5, .int v5), (6, .int v6), (7, .ref v7), (10, .ref v10), (11, .int v11), (12, .int v12), (13, .int v13)]) (st' := []) rfl ?_
      exact xZ.sub (xsc (.tail _ (.tail _ (.head _))) (xsc (.tail _ (.tail _ (.tail _ (.head _)))) (xsc (.tail _ (.tail _ (.tail _ (.tail _ (.head _))))) (xsc (.tail _ (.tail _ (.tail _ (.tail _ (.tail _ (.head _)))))) (xsc (.tail _ (.tail _ (.tail _ (.tail _ (.tail _ (.tail _ (.head _))))))) (xsc (.tail _ (.tail _ (.tail _ (.tail _ (.tail _ (.tail _ (.tail _ (.head _)))))))) (xsc (.tail _ (.tail _ (.tail _ (.tail _ (.tail _ (.tail _ (.tail _ (.tail _ (.head _))))))))) (xsc (.tail _ (.tail _ (.tail _ (.tail _ (.tail _ (.tail _ (.tail _ (.tail _ (.tail _ (.head _)))))))))) (xsc (.tail _ (.tail _ (.tail _ (.tail _ (.tail _ (.tail _ (.tail _ (.tail _ (.tail _ (.tail _ (.head _))))))))))) (xsc (.head _) xsn)))))))))) (show ([14, 15, 0, 4, 5, 6, 7, 10, 11, 12, 13] : List Nat).Nodup from by decide) (hK510 v0 v4 v5 v6 v7 v10 v11 v12 v13 (v14 + (1 : Int32)) M1)
    · skip
      refine xZ.adv (me := xm186) hP_186 2 (pc' := 647) (lv' := [(15, .int s0), (0, .ref v0), (4, .ref v4), (5, .int v5), (6, .int v6), (7, .ref v7), (10, .ref v10), (11, .int v11), (12, .int v12), (13, .int v13), (14, .int v14)]) (st' := [.ref v7, .ref v0]) rfl ?_
      refine xZ.k_gR (me := xm186) hP_186 rfl (fun x4 => ?_)
      refine xZ.adv (me := xm186) hP_186 1 (pc' := 652) (lv' := [(15, .int s0), (0, .ref v0), (4, .ref v4), (5, .int v5), (6, .int v6), (7, .ref v7), (10, .ref v10), (11, .int v11), (12, .int v12), (13, .int v13), (14, .int v14)]) (st' := [.int v13, .ref x4, .ref v0]) rfl ?_
      refine xZ.k_aI (me := xm186) hP_186 rfl (fun x5 => ?_)
      refine xZ.adv (me := xm186) hP_186 1 (pc' := 655) (lv' := [(15, .int s0), (0, .ref v0), (4, .ref v4), (5, .int v5), (6, .int v6), (7, .ref v7), (10, .ref v10), (11, .int v11), (12, .int v12), (13, .int v13), (14, .int v14)]) (st' := [.int v11, .int x5, .ref v0]) rfl ?_
      refine xZ.calls (κ := oI) (av := [.ref v0, .int x5, .int v11]) (rest := []) (st' := fun x6 => [.int x6]) (me := xm186) hP_186 rfl rfl rfl (Nat.le_of_ble_eq_true rfl) (by decide) hP_155 (Nat.le_of_ble_eq_true rfl) (fun _ => rfl) (k_f_Law_takesPart O f (d + 5) v0 x5 v11 M1) (fun x6 M2 => ?_)
      refine xZ.if_ne (me := xm186) hP_186 rfl (fun h3 => ?_) (fun h3 => ?_)
      · skip
        refine xZ.adv (me := xm186) hP_186 3 (pc' := 510) (lv' := [(14, .int (v14 + (1 : Int32))), (15, .int s0), (0, .ref v0), (4, .ref v4), (5, .int v5), (6, .int v6), (7, .ref v7), (10, .ref v10), (11, .int v11), (12, .int v12), (13, .int v13)]) (st' := []) rfl ?_
        exact xZ.sub (xsc (.tail _ (.tail _ (.head _))) (xsc (.tail _ (.tail _ (.tail _ (.head _)))) (xsc (.tail _ (.tail _ (.tail _ (.tail _ (.head _))))) (xsc (.tail _ (.tail _ (.tail _ (.tail _ (.tail _ (.head _)))))) (xsc (.tail _ (.tail _ (.tail _ (.tail _ (.tail _ (.tail _ (.head _))))))) (xsc (.tail _ (.tail _ (.tail _ (.tail _ (.tail _ (.tail _ (.tail _ (.head _)))))))) (xsc (.tail _ (.tail _ (.tail _ (.tail _ (.tail _ (.tail _ (.tail _ (.tail _ (.head _))))))))) (xsc (.tail _ (.tail _ (.tail _ (.tail _ (.tail _ (.tail _ (.tail _ (.tail _ (.tail _ (.head _)))))))))) (xsc (.tail _ (.tail _ (.tail _ (.tail _ (.tail _ (.tail _ (.tail _ (.tail _ (.tail _ (.tail _ (.head _))))))))))) (xsc (.head _) xsn)))))))))) (show ([14, 15, 0, 4, 5, 6, 7, 10, 11, 12, 13] : List Nat).Nodup from by decide) (hK510 v0 v4 v5 v6 v7 v10 v11 v12 v13 (v14 + (1 : Int32)) M2)
      · skip
        refine xZ.adv (me := xm186) hP_186 1 (pc' := 666) (lv' := [(15, .int s0), (0, .ref v0), (4, .ref v4), (5, .int v5), (6, .int v6), (7, .ref v7), (10, .ref v10), (11, .int v11), (12, .int v12), (13, .int v13), (14, .int v14)]) (st' := [.ref v7]) rfl ?_
        refine xZ.k_gR (me := xm186) hP_186 rfl (fun x7 => ?_)
        refine xZ.adv (me := xm186) hP_186 1 (pc' := 671) (lv' := [(15, .int s0), (0, .ref v0), (4, .ref v4), (5, .int v5), (6, .int v6), (7, .ref v7), (10, .ref v10), (11, .int v11), (12, .int v12), (13, .int v13), (14, .int v14)]) (st' := [.int v13, .ref x7]) rfl ?_
        refine xZ.k_aI (me := xm186) hP_186 rfl (fun x8 => ?_)
        refine xZ.adv (me := xm186) hP_186 2 (pc' := 676) (lv' := [(15, .int s0), (0, .ref v0), (4, .ref v4), (5, .int v5), (6, .int v6), (7, .ref v7), (10, .ref v10), (11, .int v11), (12, .int v12), (13, .int v13), (14, .int v14)]) (st' := [.int v14, .ref v7, .int x8]) rfl ?_
        refine xZ.callv (κ := oI) (av := [.int v14]) (rest := [.int x8]) (st' := fun x9 => [.int x9, .int x8]) (k0 := v7) (me := xm186) hP_186 rfl (Or.inl rfl) ⟨rfl, by decide⟩ rfl rfl (Nat.le_of_ble_eq_true rfl) (by decide) hP_154 (Nat.le_of_ble_eq_true rfl) (fun _ => rfl) (k_f_LDates_end O f (d + 8) v7 v14 M2) (fun x9 M3 => ?_)
        refine xZ.adv (me := xm186) hP_186 4 (pc' := 686) (lv' := [(16, .int (x8 - x9)), (15, .int s0), (0, .ref v0), (4, .ref v4), (5, .int v5), (6, .int v6), (7, .ref v7), (10, .ref v10), (11, .int v11), (12, .int v12), (13, .int v13), (14, .int v14)]) (st' := [.int v14, .ref v10]) rfl ?_
        refine xZ.k_aI (me := xm186) hP_186 rfl (fun x10 => ?_)
        refine xZ.adv (me := xm186) hP_186 1 (pc' := 688) (lv' := [(16, .int (x8 - x9)), (15, .int s0), (0, .ref v0), (4, .ref v4), (5, .int v5), (6, .int v6), (7, .ref v7), (10, .ref v10), (11, .int v11), (12, .int v12), (13, .int v13), (14, .int v14)]) (st' := [.int (-1 : Int32), .int x10]) rfl ?_
        refine xZ.ic_eq (me := xm186) hP_186 rfl (fun h4 => ?_) (fun h4 => ?_)
        · skip
          exact xZ.sub (xsc (.tail _ (.tail _ (.head _))) (xsc (.tail _ (.tail _ (.tail _ (.head _)))) (xsc (.tail _ (.tail _ (.tail _ (.tail _ (.head _))))) (xsc (.tail _ (.tail _ (.tail _ (.tail _ (.tail _ (.head _)))))) (xsc (.tail _ (.tail _ (.tail _ (.tail _ (.tail _ (.tail _ (.head _))))))) (xsc (.tail _ (.tail _ (.tail _ (.tail _ (.tail _ (.tail _ (.tail _ (.head _)))))))) (xsc (.tail _ (.tail _ (.tail _ (.tail _ (.tail _ (.tail _ (.tail _ (.tail _ (.head _))))))))) (xsc (.tail _ (.tail _ (.tail _ (.tail _ (.tail _ (.tail _ (.tail _ (.tail _ (.tail _ (.head _)))))))))) (xsc (.tail _ (.tail _ (.tail _ (.tail _ (.tail _ (.tail _ (.tail _ (.tail _ (.tail _ (.tail _ (.head _))))))))))) (xsc (.tail _ (.tail _ (.tail _ (.tail _ (.tail _ (.tail _ (.tail _ (.tail _ (.tail _ (.tail _ (.tail _ (.head _)))))))))))) (xsc (.head _) xsn))))))))))) (show ([16, 15, 0, 4, 5, 6, 7, 10, 11, 12, 13, 14] : List Nat).Nodup from by decide) (k_f_Law_areLaid_700 O f d K510 hK510 v0 v4 v5 v6 v7 v10 v11 v12 v13 v14 (x8 - x9) M3)
        · skip
          refine xZ.adv (me := xm186) hP_186 2 (pc' := 695) (lv' := [(16, .int (x8 - x9)), (15, .int s0), (0, .ref v0), (4, .ref v4), (5, .int v5), (6, .int v6), (7, .ref v7), (10, .ref v10), (11, .int v11), (12, .int v12), (13, .int v13), (14, .int v14)]) (st' := [.int v13, .ref v10]) rfl ?_
          refine xZ.k_aI (me := xm186) hP_186 rfl (fun x11 => ?_)
          refine xZ.adv (me := xm186) hP_186 1 (pc' := 697) (lv' := [(16, .int (x8 - x9)), (15, .int s0), (0, .ref v0), (4, .ref v4), (5, .int v5), (6, .int v6), (7, .ref v7), (10, .ref v10), (11, .int v11), (12, .int v12), (13, .int v13), (14, .int v14)]) (st' := [.int (-1 : Int32), .int x11]) rfl ?_
          refine xZ.ic_ne (me := xm186) hP_186 rfl (fun h5 => ?_) (fun h5 => ?_)
          · skip
            exact xZ.sub (xsc (.tail _ (.tail _ (.head _))) (xsc (.tail _ (.tail _ (.tail _ (.head _)))) (xsc (.tail _ (.tail _ (.tail _ (.tail _ (.head _))))) (xsc (.tail _ (.tail _ (.tail _ (.tail _ (.tail _ (.head _)))))) (xsc (.tail _ (.tail _ (.tail _ (.tail _ (.tail _ (.tail _ (.head _))))))) (xsc (.tail _ (.tail _ (.tail _ (.tail _ (.tail _ (.tail _ (.tail _ (.head _)))))))) (xsc (.tail _ (.tail _ (.tail _ (.tail _ (.tail _ (.tail _ (.tail _ (.tail _ (.head _))))))))) (xsc (.tail _ (.tail _ (.tail _ (.tail _ (.tail _ (.tail _ (.tail _ (.tail _ (.tail _ (.head _)))))))))) (xsc (.tail _ (.tail _ (.tail _ (.tail _ (.tail _ (.tail _ (.tail _ (.tail _ (.tail _ (.tail _ (.head _))))))))))) (xsc (.tail _ (.tail _ (.tail _ (.tail _ (.tail _ (.tail _ (.tail _ (.tail _ (.tail _ (.tail _ (.tail _ (.head _)))))))))))) (xsc (.head _) xsn))))))))))) (show ([16, 15, 0, 4, 5, 6, 7, 10, 11, 12, 13, 14] : List Nat).Nodup from by decide) (k_f_Law_areLaid_700 O f d K510 hK510 v0 v4 v5 v6 v7 v10 v11 v12 v13 v14 (x8 - x9) M3)
          · skip
            refine xZ.adv (me := xm186) hP_186 4 (pc' := 711) (lv' := [(16, .int (x8 - x9)), (15, .int s0), (0, .ref v0), (4, .ref v4), (5, .int v5), (6, .int v6), (7, .ref v7), (10, .ref v10), (11, .int v11), (12, .int v12), (13, .int v13), (14, .int v14)]) (st' := [.int v14, .ref v10, .ref v4, .int (5 : Int32)]) rfl ?_
            refine xZ.k_aI (me := xm186) hP_186 rfl (fun x12 => ?_)
            refine xZ.k_aI (me := xm186) hP_186 rfl (fun x13 => ?_)
            refine xZ.adv (me := xm186) hP_186 3 (pc' := 719) (lv' := [(16, .int (x8 - x9)), (15, .int s0), (0, .ref v0), (4, .ref v4), (5, .int v5), (6, .int v6), (7, .ref v7), (10, .ref v10), (11, .int v11), (12, .int v12), (13, .int v13), (14, .int v14)]) (st' := [.int v13, .ref v10, .ref v4, .int x13, .int (5 : Int32)]) rfl ?_
            refine xZ.k_aI (me := xm186) hP_186 rfl (fun x14 => ?_)
            refine xZ.k_aI (me := xm186) hP_186 rfl (fun x15 => ?_)
            refine xZ.adv (me := xm186) hP_186 1 (pc' := 722) (lv' := [(16, .int (x8 - x9)), (15, .int s0), (0, .ref v0), (4, .ref v4), (5, .int v5), (6, .int v6), (7, .ref v7), (10, .ref v10), (11, .int v11), (12, .int v12), (13, .int v13), (14, .int v14)]) (st' := [.int (x13 - x15), .int (5 : Int32)]) rfl ?_
            refine xZ.calls (κ := oI) (av := [.int (x13 - x15)]) (rest := [.int (5 : Int32)]) (st' := fun x16 => [.int x16, .int (5 : Int32)]) (me := xm186) hP_186 rfl rfl rfl (Nat.le_of_ble_eq_true rfl) (by decide) hP_249 (Nat.le_of_ble_eq_true rfl) (fun _ => rfl) (k_f_Math_abs O f (d + 8) (x13 - x15) M3) (fun x16 M4 => ?_)
            refine xZ.adv (me := xm186) hP_186 1 (pc' := 726) (lv' := [(16, .int (x8 - x9)), (15, .int s0), (0, .ref v0), (4, .ref v4), (5, .int v5), (6, .int v6), (7, .ref v7), (10, .ref v10), (11, .int v11), (12, .int v12), (13, .int v13), (14, .int v14)]) (st' := [.int ((5 : Int32) * x16)]) rfl ?_
            exact xZ.sub (xsc (.tail _ (.tail _ (.head _))) (xsc (.tail _ (.tail _ (.tail _ (.head _)))) (xsc (.tail _ (.tail _ (.tail _ (.tail _ (.head _))))) (xsc (.tail _ (.tail _ (.tail _ (.tail _ (.tail _ (.head _)))))) (xsc (.tail _ (.tail _ (.tail _ (.tail _ (.tail _ (.tail _ (.head _))))))) (xsc (.tail _ (.tail _ (.tail _ (.tail _ (.tail _ (.tail _ (.tail _ (.head _)))))))) (xsc (.tail _ (.tail _ (.tail _ (.tail _ (.tail _ (.tail _ (.tail _ (.tail _ (.head _))))))))) (xsc (.tail _ (.tail _ (.tail _ (.tail _ (.tail _ (.tail _ (.tail _ (.tail _ (.tail _ (.head _)))))))))) (xsc (.tail _ (.tail _ (.tail _ (.tail _ (.tail _ (.tail _ (.tail _ (.tail _ (.tail _ (.tail _ (.head _))))))))))) (xsc (.tail _ (.tail _ (.tail _ (.tail _ (.tail _ (.tail _ (.tail _ (.tail _ (.tail _ (.tail _ (.tail _ (.head _)))))))))))) (xsc (.head _) xsn))))))))))) (show ([16, 15, 0, 4, 5, 6, 7, 10, 11, 12, 13, 14] : List Nat).Nodup from by decide) (k_f_Law_areLaid_726 O f d K510 hK510 v0 v4 v5 v6 v7 v10 v11 v12 v13 v14 (x8 - x9) ((5 : Int32) * x16) M4)
def f_Law_areLaid_619 (O : Nat → Option va_E) (f : Nat) (K510 : Nat → Nat → Int32 → Int32 → Nat → Nat → Int32 → Int32 → Int32 → Int32 → xM → Option (Int32 × xM)) (v0 : Nat) (v4 : Nat) (v5 : Int32) (v6 : Int32) (v7 : Nat) (v10 : Nat) (v11 : Int32) (v12 : Int32) (v13 : Int32) (v14 : Int32) (M : xM) : Option (Int32 × xM) :=
  f_Law_areLaid_620 O f K510 v0 v4 v5 v6 v7 v10 v11 v12 v13 v14 (0 : Int32) M
set_option maxRecDepth 20000 in
theorem k_f_Law_areLaid_619 (O : Nat → Option va_E) (f d : Nat) (K510 : Nat → Nat → Int32 → Int32 → Nat → Nat → Int32 → Int32 → Int32 → Int32 → xM → Option (Int32 × xM)) (hK510 : ∀ (v0 : Nat) (v4 : Nat) (v5 : Int32) (v6 : Int32) (v7 : Nat) (v10 : Nat) (v11 : Int32) (v12 : Int32) (v13 : Int32) (v14 : Int32) M, xZ oI O (d + 9) 186 510 [(0, .ref v0), (4, .ref v4), (5, .int v5), (6, .int v6), (7, .ref v7), (10, .ref v10), (11, .int v11), (12, .int v12), (13, .int v13), (14, .int v14)] [] M (K510 v0 v4 v5 v6 v7 v10 v11 v12 v13 v14 M)) (v0 : Nat) (v4 : Nat) (v5 : Int32) (v6 : Int32) (v7 : Nat) (v10 : Nat) (v11 : Int32) (v12 : Int32) (v13 : Int32) (v14 : Int32) (M : xM) : xZ oI O (d + 9) 186 619 [(0, .ref v0), (4, .ref v4), (5, .int v5), (6, .int v6), (7, .ref v7), (10, .ref v10), (11, .int v11), (12, .int v12), (13, .int v13), (14, .int v14)] [] M (f_Law_areLaid_619 O f K510 v0 v4 v5 v6 v7 v10 v11 v12 v13 v14 M) := by
  unfold f_Law_areLaid_619
  refine xZ.adv (me := xm186) hP_186 1 (pc' := 620) (lv' := [(0, .ref v0), (4, .ref v4), (5, .int v5), (6, .int v6), (7, .ref v7), (10, .ref v10), (11, .int v11), (12, .int v12), (13, .int v13), (14, .int v14)]) (st' := [.int (0 : Int32)]) rfl ?_
  exact (k_f_Law_areLaid_620 O f d K510 hK510 v0 v4 v5 v6 v7 v10 v11 v12 v13 v14 (0 : Int32) M)
def f_Law_areLaid_615 (O : Nat → Option va_E) (f : Nat) (K510 : Nat → Nat → Int32 → Int32 → Nat → Nat → Int32 → Int32 → Int32 → Int32 → xM → Option (Int32 × xM)) (v0 : Nat) (v4 : Nat) (v5 : Int32) (v6 : Int32) (v7 : Nat) (v10 : Nat) (v11 : Int32) (v12 : Int32) (v13 : Int32) (v14 : Int32) (M : xM) : Option (Int32 × xM) :=
  f_Law_areLaid_620 O f K510 v0 v4 v5 v6 v7 v10 v11 v12 v13 v14 (1 : Int32) M
set_option maxRecDepth 20000 in
theorem k_f_Law_areLaid_615 (O : Nat → Option va_E) (f d : Nat) (K510 : Nat → Nat → Int32 → Int32 → Nat → Nat → Int32 → Int32 → Int32 → Int32 → xM → Option (Int32 × xM)) (hK510 : ∀ (v0 : Nat) (v4 : Nat) (v5 : Int32) (v6 : Int32) (v7 : Nat) (v10 : Nat) (v11 : Int32) (v12 : Int32) (v13 : Int32) (v14 : Int32) M, xZ oI O (d + 9) 186 510 [(0, .ref v0), (4, .ref v4), (5, .int v5), (6, .int v6), (7, .ref v7), (10, .ref v10), (11, .int v11), (12, .int v12), (13, .int v13), (14, .int v14)] [] M (K510 v0 v4 v5 v6 v7 v10 v11 v12 v13 v14 M)) (v0 : Nat) (v4 : Nat) (v5 : Int32) (v6 : Int32) (v7 : Nat) (v10 : Nat) (v11 : Int32) (v12 : Int32) (v13 : Int32) (v14 : Int32) (M : xM) : xZ oI O (d + 9) 186 615 [(0, .ref v0), (4, .ref v4), (5, .int v5), (6, .int v6), (7, .ref v7), (10, .ref v10), (11, .int v11), (12, .int v12), (13, .int v13), (14, .int v14)] [] M (f_Law_areLaid_615 O f K510 v0 v4 v5 v6 v7 v10 v11 v12 v13 v14 M) := by
  unfold f_Law_areLaid_615
  refine xZ.adv (me := xm186) hP_186 2 (pc' := 620) (lv' := [(0, .ref v0), (4, .ref v4), (5, .int v5), (6, .int v6), (7, .ref v7), (10, .ref v10), (11, .int v11), (12, .int v12), (13, .int v13), (14, .int v14)]) (st' := [.int (1 : Int32)]) rfl ?_
  exact (k_f_Law_areLaid_620 O f d K510 hK510 v0 v4 v5 v6 v7 v10 v11 v12 v13 v14 (1 : Int32) M)
def f_Law_areLaid_510 (O : Nat → Option va_E) (f : Nat) (K497 : Nat → Nat → Int32 → Int32 → Nat → Nat → Int32 → Int32 → Int32 → xM → Option (Int32 × xM)) : Nat → Nat → Nat → Int32 → Int32 → Nat → Nat → Int32 → Int32 → Int32 → Int32 → xM → Option (Int32 × xM)
  | 0, _, _, _, _, _, _, _, _, _, _, _ => none
  | n + 1, v0, v4, v5, v6, v7, v10, v11, v12, v13, v14, M =>
    (gI O M v7 13 4).bind fun x1 =>
    if x1 ≤ v14 then (
      K497 v0 v4 v5 v6 v7 v10 v11 v12 (v13 + (1 : Int32)) M
    ) else
    (gR O M v7 13 2).bind fun x2 =>
    (aI O M x2 v14).bind fun x3 =>
    (gR O M v7 13 2).bind fun x4 =>
    (aI O M x4 v13).bind fun x5 =>
    if x3 < x5 then (
      f_Law_areLaid_615 O f (f_Law_areLaid_510 O f K497 n) v0 v4 v5 v6 v7 v10 v11 v12 v13 v14 M
    ) else
    (gR O M v7 13 2).bind fun x6 =>
    (aI O M x6 v14).bind fun x7 =>
    (gR O M v7 13 2).bind fun x8 =>
    (aI O M x8 v13).bind fun x9 =>
    if x7 = x9 then (
      (gR O M v7 13 0).bind fun x10 =>
      (aI O M x10 v14).bind fun x11 =>
      (gR O M v7 13 0).bind fun x12 =>
      (aI O M x12 v13).bind fun x13 =>
      if x11 < x13 then (
        f_Law_areLaid_615 O f (f_Law_areLaid_510 O f K497 n) v0 v4 v5 v6 v7 v10 v11 v12 v13 v14 M
      ) else
      (gR O M v7 13 0).bind fun x14 =>
      (aI O M x14 v14).bind fun x15 =>
      (gR O M v7 13 0).bind fun x16 =>
      (aI O M x16 v13).bind fun x17 =>
      if x15 = x17 then (
        (gR O M v7 13 1).bind fun x18 =>
        (aI O M x18 v14).bind fun x19 =>
        (gR O M v7 13 1).bind fun x20 =>
        (aI O M x20 v13).bind fun x21 =>
        if x21 ≤ x19 then (
          f_Law_areLaid_619 O f (f_Law_areLaid_510 O f K497 n) v0 v4 v5 v6 v7 v10 v11 v12 v13 v14 M
        ) else
        f_Law_areLaid_615 O f (f_Law_areLaid_510 O f K497 n) v0 v4 v5 v6 v7 v10 v11 v12 v13 v14 M
      ) else
      f_Law_areLaid_619 O f (f_Law_areLaid_510 O f K497 n) v0 v4 v5 v6 v7 v10 v11 v12 v13 v14 M
    ) else
    f_Law_areLaid_619 O f (f_Law_areLaid_510 O f K497 n) v0 v4 v5 v6 v7 v10 v11 v12 v13 v14 M
set_option maxRecDepth 20000 in
theorem k_f_Law_areLaid_510 (O : Nat → Option va_E) (f d : Nat) (K497 : Nat → Nat → Int32 → Int32 → Nat → Nat → Int32 → Int32 → Int32 → xM → Option (Int32 × xM)) (hK497 : ∀ (v0 : Nat) (v4 : Nat) (v5 : Int32) (v6 : Int32) (v7 : Nat) (v10 : Nat) (v11 : Int32) (v12 : Int32) (v13 : Int32) M, xZ oI O (d + 9) 186 497 [(0, .ref v0), (4, .ref v4), (5, .int v5), (6, .int v6), (7, .ref v7), (10, .ref v10), (11, .int v11), (12, .int v12), (13, .int v13)] [] M (K497 v0 v4 v5 v6 v7 v10 v11 v12 v13 M)) : ∀ (n : Nat) (v0 : Nat) (v4 : Nat) (v5 : Int32) (v6 : Int32) (v7 : Nat) (v10 : Nat) (v11 : Int32) (v12 : Int32) (v13 : Int32) (v14 : Int32) (M : xM), xZ oI O (d + 9) 186 510 [(0, .ref v0), (4, .ref v4), (5, .int v5), (6, .int v6), (7, .ref v7), (10, .ref v10), (11, .int v11), (12, .int v12), (13, .int v13), (14, .int v14)] [] M (f_Law_areLaid_510 O f K497 n v0 v4 v5 v6 v7 v10 v11 v12 v13 v14 M) := by
  intro n
  induction n with
  | zero =>
    intro v0 v4 v5 v6 v7 v10 v11 v12 v13 v14 M
    exact xZ.no
  | succ n ih =>
    intro v0 v4 v5 v6 v7 v10 v11 v12 v13 v14 M
    unfold f_Law_areLaid_510
    refine xZ.adv (me := xm186) hP_186 2 (pc' := 514) (lv' := [(0, .ref v0), (4, .ref v4), (5, .int v5), (6, .int v6), (7, .ref v7), (10, .ref v10), (11, .int v11), (12, .int v12), (13, .int v13), (14, .int v14)]) (st' := [.ref v7, .int v14]) rfl ?_
    refine xZ.k_gI (me := xm186) hP_186 rfl (fun x1 => ?_)
    refine xZ.ic_ge (me := xm186) hP_186 rfl (fun h1 => ?_) (fun h1 => ?_)
    · skip
      refine xZ.adv (me := xm186) hP_186 2 (pc' := 497) (lv' := [(13, .int (v13 + (1 : Int32))), (0, .ref v0), (4, .ref v4), (5, .int v5), (6, .int v6), (7, .ref v7), (10, .ref v10), (11, .int v11), (12, .int v12), (14, .int v14)]) (st' := []) rfl ?_
      exact xZ.sub (xsc (.tail _ (.head _)) (xsc (.tail _ (.tail _ (.head _))) (xsc (.tail _ (.tail _ (.tail _ (.head _)))) (xsc (.tail _ (.tail _ (.tail _ (.tail _ (.head _))))) (xsc (.tail _ (.tail _ (.tail _ (.tail _ (.tail _ (.head _)))))) (xsc (.tail _ (.tail _ (.tail _ (.tail _ (.tail _ (.tail _ (.head _))))))) (xsc (.tail _ (.tail _ (.tail _ (.tail _ (.tail _ (.tail _ (.tail _ (.head _)))))))) (xsc (.tail _ (.tail _ (.tail _ (.tail _ (.tail _ (.tail _ (.tail _ (.tail _ (.head _))))))))) (xsc (.head _) xsn))))))))) (show ([13, 0, 4, 5, 6, 7, 10, 11, 12, 14] : List Nat).Nodup from by decide) (hK497 v0 v4 v5 v6 v7 v10 v11 v12 (v13 + (1 : Int32)) M)
    · skip
      refine xZ.adv (me := xm186) hP_186 1 (pc' := 522) (lv' := [(0, .ref v0), (4, .ref v4), (5, .int v5), (6, .int v6), (7, .ref v7), (10, .ref v10), (11, .int v11), (12, .int v12), (13, .int v13), (14, .int v14)]) (st' := [.ref v7]) rfl ?_
      refine xZ.k_gR (me := xm186) hP_186 rfl (fun x2 => ?_)
      refine xZ.adv (me := xm186) hP_186 1 (pc' := 527) (lv' := [(0, .ref v0), (4, .ref v4), (5, .int v5), (6, .int v6), (7, .ref v7), (10, .ref v10), (11, .int v11), (12, .int v12), (13, .int v13), (14, .int v14)]) (st' := [.int v14, .ref x2]) rfl ?_
      refine xZ.k_aI (me := xm186) hP_186 rfl (fun x3 => ?_)
      refine xZ.adv (me := xm186) hP_186 1 (pc' := 530) (lv' := [(0, .ref v0), (4, .ref v4), (5, .int v5), (6, .int v6), (7, .ref v7), (10, .ref v10), (11, .int v11), (12, .int v12), (13, .int v13), (14, .int v14)]) (st' := [.ref v7, .int x3]) rfl ?_
      refine xZ.k_gR (me := xm186) hP_186 rfl (fun x4 => ?_)
      refine xZ.adv (me := xm186) hP_186 1 (pc' := 535) (lv' := [(0, .ref v0), (4, .ref v4), (5, .int v5), (6, .int v6), (7, .ref v7), (10, .ref v10), (11, .int v11), (12, .int v12), (13, .int v13), (14, .int v14)]) (st' := [.int v13, .ref x4, .int x3]) rfl ?_
      refine xZ.k_aI (me := xm186) hP_186 rfl (fun x5 => ?_)
      refine xZ.ic_lt (me := xm186) hP_186 rfl (fun h2 => ?_) (fun h2 => ?_)
      · skip
        exact (k_f_Law_areLaid_615 O f d (f_Law_areLaid_510 O f K497 n) ih v0 v4 v5 v6 v7 v10 v11 v12 v13 v14 M)
      · skip
        refine xZ.adv (me := xm186) hP_186 1 (pc' := 541) (lv' := [(0, .ref v0), (4, .ref v4), (5, .int v5), (6, .int v6), (7, .ref v7), (10, .ref v10), (11, .int v11), (12, .int v12), (13, .int v13), (14, .int v14)]) (st' := [.ref v7]) rfl ?_
        refine xZ.k_gR (me := xm186) hP_186 rfl (fun x6 => ?_)
        refine xZ.adv (me := xm186) hP_186 1 (pc' := 546) (lv' := [(0, .ref v0), (4, .ref v4), (5, .int v5), (6, .int v6), (7, .ref v7), (10, .ref v10), (11, .int v11), (12, .int v12), (13, .int v13), (14, .int v14)]) (st' := [.int v14, .ref x6]) rfl ?_
        refine xZ.k_aI (me := xm186) hP_186 rfl (fun x7 => ?_)
        refine xZ.adv (me := xm186) hP_186 1 (pc' := 549) (lv' := [(0, .ref v0), (4, .ref v4), (5, .int v5), (6, .int v6), (7, .ref v7), (10, .ref v10), (11, .int v11), (12, .int v12), (13, .int v13), (14, .int v14)]) (st' := [.ref v7, .int x7]) rfl ?_
        refine xZ.k_gR (me := xm186) hP_186 rfl (fun x8 => ?_)
        refine xZ.adv (me := xm186) hP_186 1 (pc' := 554) (lv' := [(0, .ref v0), (4, .ref v4), (5, .int v5), (6, .int v6), (7, .ref v7), (10, .ref v10), (11, .int v11), (12, .int v12), (13, .int v13), (14, .int v14)]) (st' := [.int v13, .ref x8, .int x7]) rfl ?_
        refine xZ.k_aI (me := xm186) hP_186 rfl (fun x9 => ?_)
        refine xZ.ic_ne (me := xm186) hP_186 rfl (fun h3 => ?_) (fun h3 => ?_)
        · skip
          refine xZ.adv (me := xm186) hP_186 1 (pc' := 560) (lv' := [(0, .ref v0), (4, .ref v4), (5, .int v5), (6, .int v6), (7, .ref v7), (10, .ref v10), (11, .int v11), (12, .int v12), (13, .int v13), (14, .int v14)]) (st' := [.ref v7]) rfl ?_
          refine xZ.k_gR (me := xm186) hP_186 rfl (fun x10 => ?_)
          refine xZ.adv (me := xm186) hP_186 1 (pc' := 565) (lv' := [(0, .ref v0), (4, .ref v4), (5, .int v5), (6, .int v6), (7, .ref v7), (10, .ref v10), (11, .int v11), (12, .int v12), (13, .int v13), (14, .int v14)]) (st' := [.int v14, .ref x10]) rfl ?_
          refine xZ.k_aI (me := xm186) hP_186 rfl (fun x11 => ?_)
          refine xZ.adv (me := xm186) hP_186 1 (pc' := 568) (lv' := [(0, .ref v0), (4, .ref v4), (5, .int v5), (6, .int v6), (7, .ref v7), (10, .ref v10), (11, .int v11), (12, .int v12), (13, .int v13), (14, .int v14)]) (st' := [.ref v7, .int x11]) rfl ?_
          refine xZ.k_gR (me := xm186) hP_186 rfl (fun x12 => ?_)
          refine xZ.adv (me := xm186) hP_186 1 (pc' := 573) (lv' := [(0, .ref v0), (4, .ref v4), (5, .int v5), (6, .int v6), (7, .ref v7), (10, .ref v10), (11, .int v11), (12, .int v12), (13, .int v13), (14, .int v14)]) (st' := [.int v13, .ref x12, .int x11]) rfl ?_
          refine xZ.k_aI (me := xm186) hP_186 rfl (fun x13 => ?_)
          refine xZ.ic_lt (me := xm186) hP_186 rfl (fun h4 => ?_) (fun h4 => ?_)
          · skip
            exact (k_f_Law_areLaid_615 O f d (f_Law_areLaid_510 O f K497 n) ih v0 v4 v5 v6 v7 v10 v11 v12 v13 v14 M)
          · skip
            refine xZ.adv (me := xm186) hP_186 1 (pc' := 579) (lv' := [(0, .ref v0), (4, .ref v4), (5, .int v5), (6, .int v6), (7, .ref v7), (10, .ref v10), (11, .int v11), (12, .int v12), (13, .int v13), (14, .int v14)]) (st' := [.ref v7]) rfl ?_
            refine xZ.k_gR (me := xm186) hP_186 rfl (fun x14 => ?_)
            refine xZ.adv (me := xm186) hP_186 1 (pc' := 584) (lv' := [(0, .ref v0), (4, .ref v4), (5, .int v5), (6, .int v6), (7, .ref v7), (10, .ref v10), (11, .int v11), (12, .int v12), (13, .int v13), (14, .int v14)]) (st' := [.int v14, .ref x14]) rfl ?_
            refine xZ.k_aI (me := xm186) hP_186 rfl (fun x15 => ?_)
            refine xZ.adv (me := xm186) hP_186 1 (pc' := 587) (lv' := [(0, .ref v0), (4, .ref v4), (5, .int v5), (6, .int v6), (7, .ref v7), (10, .ref v10), (11, .int v11), (12, .int v12), (13, .int v13), (14, .int v14)]) (st' := [.ref v7, .int x15]) rfl ?_
            refine xZ.k_gR (me := xm186) hP_186 rfl (fun x16 => ?_)
            refine xZ.adv (me := xm186) hP_186 1 (pc' := 592) (lv' := [(0, .ref v0), (4, .ref v4), (5, .int v5), (6, .int v6), (7, .ref v7), (10, .ref v10), (11, .int v11), (12, .int v12), (13, .int v13), (14, .int v14)]) (st' := [.int v13, .ref x16, .int x15]) rfl ?_
            refine xZ.k_aI (me := xm186) hP_186 rfl (fun x17 => ?_)
            refine xZ.ic_ne (me := xm186) hP_186 rfl (fun h5 => ?_) (fun h5 => ?_)
            · skip
              refine xZ.adv (me := xm186) hP_186 1 (pc' := 598) (lv' := [(0, .ref v0), (4, .ref v4), (5, .int v5), (6, .int v6), (7, .ref v7), (10, .ref v10), (11, .int v11), (12, .int v12), (13, .int v13), (14, .int v14)]) (st' := [.ref v7]) rfl ?_
              refine xZ.k_gR (me := xm186) hP_186 rfl (fun x18 => ?_)
              refine xZ.adv (me := xm186) hP_186 1 (pc' := 603) (lv' := [(0, .ref v0), (4, .ref v4), (5, .int v5), (6, .int v6), (7, .ref v7), (10, .ref v10), (11, .int v11), (12, .int v12), (13, .int v13), (14, .int v14)]) (st' := [.int v14, .ref x18]) rfl ?_
              refine xZ.k_aI (me := xm186) hP_186 rfl (fun x19 => ?_)
              refine xZ.adv (me := xm186) hP_186 1 (pc' := 606) (lv' := [(0, .ref v0), (4, .ref v4), (5, .int v5), (6, .int v6), (7, .ref v7), (10, .ref v10), (11, .int v11), (12, .int v12), (13, .int v13), (14, .int v14)]) (st' := [.ref v7, .int x19]) rfl ?_
              refine xZ.k_gR (me := xm186) hP_186 rfl (fun x20 => ?_)
              refine xZ.adv (me := xm186) hP_186 1 (pc' := 611) (lv' := [(0, .ref v0), (4, .ref v4), (5, .int v5), (6, .int v6), (7, .ref v7), (10, .ref v10), (11, .int v11), (12, .int v12), (13, .int v13), (14, .int v14)]) (st' := [.int v13, .ref x20, .int x19]) rfl ?_
              refine xZ.k_aI (me := xm186) hP_186 rfl (fun x21 => ?_)
              refine xZ.ic_ge (me := xm186) hP_186 rfl (fun h6 => ?_) (fun h6 => ?_)
              · skip
                exact (k_f_Law_areLaid_619 O f d (f_Law_areLaid_510 O f K497 n) ih v0 v4 v5 v6 v7 v10 v11 v12 v13 v14 M)
              · skip
                exact (k_f_Law_areLaid_615 O f d (f_Law_areLaid_510 O f K497 n) ih v0 v4 v5 v6 v7 v10 v11 v12 v13 v14 M)
            · skip
              exact (k_f_Law_areLaid_619 O f d (f_Law_areLaid_510 O f K497 n) ih v0 v4 v5 v6 v7 v10 v11 v12 v13 v14 M)
        · skip
          exact (k_f_Law_areLaid_619 O f d (f_Law_areLaid_510 O f K497 n) ih v0 v4 v5 v6 v7 v10 v11 v12 v13 v14 M)
def f_Law_areLaid_497 (O : Nat → Option va_E) (f : Nat) : Nat → Nat → Nat → Int32 → Int32 → Nat → Nat → Int32 → Int32 → Int32 → xM → Option (Int32 × xM)
  | 0, _, _, _, _, _, _, _, _, _, _ => none
  | n + 1, v0, v4, v5, v6, v7, v10, v11, v12, v13, M =>
    (gI O M v7 13 4).bind fun x1 =>
    if x1 ≤ v13 then (
      (isO O M v0 12).bind fun _ =>
      xcl (f_Calendarhall_clashes O f v0 v11 v5 v6 M) fun x2 M1 =>
      if x2 = v12 then (
        some ((1 : Int32), M1)
      ) else
      some ((0 : Int32), M1)
    ) else
    f_Law_areLaid_510 O f (f_Law_areLaid_497 O f n) f v0 v4 v5 v6 v7 v10 v11 v12 v13 (0 : Int32) M
set_option maxRecDepth 20000 in
theorem k_f_Law_areLaid_497 (O : Nat → Option va_E) (f d : Nat) : ∀ (n : Nat) (v0 : Nat) (v4 : Nat) (v5 : Int32) (v6 : Int32) (v7 : Nat) (v10 : Nat) (v11 : Int32) (v12 : Int32) (v13 : Int32) (M : xM), xZ oI O (d + 9) 186 497 [(0, .ref v0), (4, .ref v4), (5, .int v5), (6, .int v6), (7, .ref v7), (10, .ref v10), (11, .int v11), (12, .int v12), (13, .int v13)] [] M (f_Law_areLaid_497 O f n v0 v4 v5 v6 v7 v10 v11 v12 v13 M) := by
  intro n
  induction n with
  | zero =>
    intro v0 v4 v5 v6 v7 v10 v11 v12 v13 M
    exact xZ.no
  | succ n ih =>
    intro v0 v4 v5 v6 v7 v10 v11 v12 v13 M
    unfold f_Law_areLaid_497
    refine xZ.adv (me := xm186) hP_186 2 (pc' := 501) (lv' := [(0, .ref v0), (4, .ref v4), (5, .int v5), (6, .int v6), (7, .ref v7), (10, .ref v10), (11, .int v11), (12, .int v12), (13, .int v13)]) (st' := [.ref v7, .int v13]) rfl ?_
    refine xZ.k_gI (me := xm186) hP_186 rfl (fun x1 => ?_)
    refine xZ.ic_ge (me := xm186) hP_186 rfl (fun h1 => ?_) (fun h1 => ?_)
    · skip
      refine xZ.adv (me := xm186) hP_186 4 (pc' := 769) (lv' := [(0, .ref v0), (4, .ref v4), (5, .int v5), (6, .int v6), (7, .ref v7), (10, .ref v10), (11, .int v11), (12, .int v12), (13, .int v13)]) (st' := [.int v6, .int v5, .int v11, .ref v0]) rfl ?_
      refine xZ.callv (κ := oI) (av := [.int v11, .int v5, .int v6]) (rest := []) (st' := fun x2 => [.int x2]) (k0 := v0) (me := xm186) hP_186 rfl (Or.inl rfl) ⟨rfl, by decide⟩ rfl rfl (Nat.le_of_ble_eq_true rfl) (by decide) hP_198 (Nat.le_of_ble_eq_true rfl) (fun _ => rfl) (k_f_Calendarhall_clashes O f (d + 1) v0 v11 v5 v6 M) (fun x2 M1 => ?_)
      refine xZ.adv (me := xm186) hP_186 1 (pc' := 774) (lv' := [(0, .ref v0), (4, .ref v4), (5, .int v5), (6, .int v6), (7, .ref v7), (10, .ref v10), (11, .int v11), (12, .int v12), (13, .int v13)]) (st' := [.int v12, .int x2]) rfl ?_
      refine xZ.ic_ne (me := xm186) hP_186 rfl (fun h2 => ?_) (fun h2 => ?_)
      · skip
        refine xZ.adv (me := xm186) hP_186 2 (pc' := 782) (lv' := [(0, .ref v0), (4, .ref v4), (5, .int v5), (6, .int v6), (7, .ref v7), (10, .ref v10), (11, .int v11), (12, .int v12), (13, .int v13)]) (st' := [.int (1 : Int32)]) rfl ?_
        exact xZ.rete (me := xm186) hP_186 rfl rfl rfl
      · skip
        refine xZ.adv (me := xm186) hP_186 1 (pc' := 782) (lv' := [(0, .ref v0), (4, .ref v4), (5, .int v5), (6, .int v6), (7, .ref v7), (10, .ref v10), (11, .int v11), (12, .int v12), (13, .int v13)]) (st' := [.int (0 : Int32)]) rfl ?_
        exact xZ.rete (me := xm186) hP_186 rfl rfl rfl
    · skip
      refine xZ.adv (me := xm186) hP_186 2 (pc' := 510) (lv' := [(14, .int (0 : Int32)), (0, .ref v0), (4, .ref v4), (5, .int v5), (6, .int v6), (7, .ref v7), (10, .ref v10), (11, .int v11), (12, .int v12), (13, .int v13)]) (st' := []) rfl ?_
      exact xZ.sub (xsc (.tail _ (.head _)) (xsc (.tail _ (.tail _ (.head _))) (xsc (.tail _ (.tail _ (.tail _ (.head _)))) (xsc (.tail _ (.tail _ (.tail _ (.tail _ (.head _))))) (xsc (.tail _ (.tail _ (.tail _ (.tail _ (.tail _ (.head _)))))) (xsc (.tail _ (.tail _ (.tail _ (.tail _ (.tail _ (.tail _ (.head _))))))) (xsc (.tail _ (.tail _ (.tail _ (.tail _ (.tail _ (.tail _ (.tail _ (.head _)))))))) (xsc (.tail _ (.tail _ (.tail _ (.tail _ (.tail _ (.tail _ (.tail _ (.tail _ (.head _))))))))) (xsc (.tail _ (.tail _ (.tail _ (.tail _ (.tail _ (.tail _ (.tail _ (.tail _ (.tail _ (.head _)))))))))) (xsc (.head _) xsn)))))))))) (show ([14, 0, 4, 5, 6, 7, 10, 11, 12, 13] : List Nat).Nodup from by decide) (k_f_Law_areLaid_510 O f d (f_Law_areLaid_497 O f n) ih f v0 v4 v5 v6 v7 v10 v11 v12 v13 (0 : Int32) M)
def f_Law_areLaid_398 (O : Nat → Option va_E) (f : Nat) (K303 : Nat → Nat → Nat → Int32 → Int32 → Nat → Int32 → Nat → Int32 → xM → Option (Int32 × xM)) : Nat → Nat → Nat → Nat → Int32 → Int32 → Nat → Int32 → Nat → Int32 → Int32 → xM → Option (Int32 × xM)
  | 0, _, _, _, _, _, _, _, _, _, _, _ => none
  | n + 1, v0, v1, v4, v5, v6, v7, v9, v10, v11, v12, M =>
    if v11 ≤ v12 then (
      K303 v0 v1 v4 v5 v6 v7 v9 v10 (v11 + (1 : Int32)) M
    ) else
    (aI O M v10 v11).bind fun x1 =>
    if x1 = (-1 : Int32) then (
      f_Law_areLaid_398 O f K303 n v0 v1 v4 v5 v6 v7 v9 v10 v11 (v12 + (1 : Int32)) M
    ) else
    (aI O M v10 v12).bind fun x2 =>
    (aI O M v10 v11).bind fun x3 =>
    if x2 = x3 then (
      (gR O M v7 13 2).bind fun x4 =>
      (aI O M x4 v11).bind fun x5 =>
      (isO O M v7 13).bind fun _ =>
      xcl (f_LDates_end O f v7 v12 M) fun x6 M1 =>
      if x6 ≤ x5 then (
        f_Law_areLaid_398 O f K303 n v0 v1 v4 v5 v6 v7 v9 v10 v11 (v12 + (1 : Int32)) M1
      ) else
      (gR O M1 v7 13 2).bind fun x7 =>
      (aI O M1 x7 v12).bind fun x8 =>
      (isO O M1 v7 13).bind fun _ =>
      xcl (f_LDates_end O f v7 v11 M1) fun x9 M2 =>
      if x9 ≤ x8 then (
        f_Law_areLaid_398 O f K303 n v0 v1 v4 v5 v6 v7 v9 v10 v11 (v12 + (1 : Int32)) M2
      ) else
      some ((0 : Int32), M2)
    ) else
    f_Law_areLaid_398 O f K303 n v0 v1 v4 v5 v6 v7 v9 v10 v11 (v12 + (1 : Int32)) M
set_option maxRecDepth 20000 in
theorem k_f_Law_areLaid_398 (O : Nat → Option va_E) (f d : Nat) (K303 : Nat → Nat → Nat → Int32 → Int32 → Nat → Int32 → Nat → Int32 → xM → Option (Int32 × xM)) (hK303 : ∀ (v0 : Nat) (v1 : Nat) (v4 : Nat) (v5 : Int32) (v6 : Int32) (v7 : Nat) (v9 : Int32) (v10 : Nat) (v11 : Int32) M, xZ oI O (d + 9) 186 303 [(0, .ref v0), (1, .ref v1), (4, .ref v4), (5, .int v5), (6, .int v6), (7, .ref v7), (9, .int v9), (10, .ref v10), (11, .int v11)] [] M (K303 v0 v1 v4 v5 v6 v7 v9 v10 v11 M)) : ∀ (n : Nat) (v0 : Nat) (v1 : Nat) (v4 : Nat) (v5 : Int32) (v6 : Int32) (v7 : Nat) (v9 : Int32) (v10 : Nat) (v11 : Int32) (v12 : Int32) (M : xM), xZ oI O (d + 9) 186 398 [(0, .ref v0), (1, .ref v1), (4, .ref v4), (5, .int v5), (6, .int v6), (7, .ref v7), (9, .int v9), (10, .ref v10), (11, .int v11), (12, .int v12)] [] M (f_Law_areLaid_398 O f K303 n v0 v1 v4 v5 v6 v7 v9 v10 v11 v12 M) := by
  intro n
  induction n with
  | zero =>
    intro v0 v1 v4 v5 v6 v7 v9 v10 v11 v12 M
    exact xZ.no
  | succ n ih =>
    intro v0 v1 v4 v5 v6 v7 v9 v10 v11 v12 M
    unfold f_Law_areLaid_398
    refine xZ.adv (me := xm186) hP_186 2 (pc' := 402) (lv' := [(0, .ref v0), (1, .ref v1), (4, .ref v4), (5, .int v5), (6, .int v6), (7, .ref v7), (9, .int v9), (10, .ref v10), (11, .int v11), (12, .int v12)]) (st' := [.int v11, .int v12]) rfl ?_
    refine xZ.ic_ge (me := xm186) hP_186 rfl (fun h1 => ?_) (fun h1 => ?_)
    · skip
      refine xZ.adv (me := xm186) hP_186 2 (pc' := 303) (lv' := [(11, .int (v11 + (1 : Int32))), (0, .ref v0), (1, .ref v1), (4, .ref v4), (5, .int v5), (6, .int v6), (7, .ref v7), (9, .int v9), (10, .ref v10), (12, .int v12)]) (st' := []) rfl ?_
      exact xZ.sub (xsc (.tail _ (.head _)) (xsc (.tail _ (.tail _ (.head _))) (xsc (.tail _ (.tail _ (.tail _ (.head _)))) (xsc (.tail _ (.tail _ (.tail _ (.tail _ (.head _))))) (xsc (.tail _ (.tail _ (.tail _ (.tail _ (.tail _ (.head _)))))) (xsc (.tail _ (.tail _ (.tail _ (.tail _ (.tail _ (.tail _ (.head _))))))) (xsc (.tail _ (.tail _ (.tail _ (.tail _ (.tail _ (.tail _ (.tail _ (.head _)))))))) (xsc (.tail _ (.tail _ (.tail _ (.tail _ (.tail _ (.tail _ (.tail _ (.tail _ (.head _))))))))) (xsc (.head _) xsn))))))))) (show ([11, 0, 1, 4, 5, 6, 7, 9, 10, 12] : List Nat).Nodup from by decide) (hK303 v0 v1 v4 v5 v6 v7 v9 v10 (v11 + (1 : Int32)) M)
    · skip
      refine xZ.adv (me := xm186) hP_186 2 (pc' := 409) (lv' := [(0, .ref v0), (1, .ref v1), (4, .ref v4), (5, .int v5), (6, .int v6), (7, .ref v7), (9, .int v9), (10, .ref v10), (11, .int v11), (12, .int v12)]) (st' := [.int v11, .ref v10]) rfl ?_
      refine xZ.k_aI (me := xm186) hP_186 rfl (fun x1 => ?_)
      refine xZ.adv (me := xm186) hP_186 1 (pc' := 411) (lv' := [(0, .ref v0), (1, .ref v1), (4, .ref v4), (5, .int v5), (6, .int v6), (7, .ref v7), (9, .int v9), (10, .ref v10), (11, .int v11), (12, .int v12)]) (st' := [.int (-1 : Int32), .int x1]) rfl ?_
      refine xZ.ic_eq (me := xm186) hP_186 rfl (fun h2 => ?_) (fun h2 => ?_)
      · skip
        refine xZ.adv (me := xm186) hP_186 2 (pc' := 398) (lv' := [(12, .int (v12 + (1 : Int32))), (0, .ref v0), (1, .ref v1), (4, .ref v4), (5, .int v5), (6, .int v6), (7, .ref v7), (9, .int v9), (10, .ref v10), (11, .int v11)]) (st' := []) rfl ?_
        exact xZ.sub (xsc (.tail _ (.head _)) (xsc (.tail _ (.tail _ (.head _))) (xsc (.tail _ (.tail _ (.tail _ (.head _)))) (xsc (.tail _ (.tail _ (.tail _ (.tail _ (.head _))))) (xsc (.tail _ (.tail _ (.tail _ (.tail _ (.tail _ (.head _)))))) (xsc (.tail _ (.tail _ (.tail _ (.tail _ (.tail _ (.tail _ (.head _))))))) (xsc (.tail _ (.tail _ (.tail _ (.tail _ (.tail _ (.tail _ (.tail _ (.head _)))))))) (xsc (.tail _ (.tail _ (.tail _ (.tail _ (.tail _ (.tail _ (.tail _ (.tail _ (.head _))))))))) (xsc (.tail _ (.tail _ (.tail _ (.tail _ (.tail _ (.tail _ (.tail _ (.tail _ (.tail _ (.head _)))))))))) (xsc (.head _) xsn)))))))))) (show ([12, 0, 1, 4, 5, 6, 7, 9, 10, 11] : List Nat).Nodup from by decide) (ih v0 v1 v4 v5 v6 v7 v9 v10 v11 (v12 + (1 : Int32)) M)
      · skip
        refine xZ.adv (me := xm186) hP_186 2 (pc' := 418) (lv' := [(0, .ref v0), (1, .ref v1), (4, .ref v4), (5, .int v5), (6, .int v6), (7, .ref v7), (9, .int v9), (10, .ref v10), (11, .int v11), (12, .int v12)]) (st' := [.int v12, .ref v10]) rfl ?_
        refine xZ.k_aI (me := xm186) hP_186 rfl (fun x2 => ?_)
        refine xZ.adv (me := xm186) hP_186 2 (pc' := 423) (lv' := [(0, .ref v0), (1, .ref v1), (4, .ref v4), (5, .int v5), (6, .int v6), (7, .ref v7), (9, .int v9), (10, .ref v10), (11, .int v11), (12, .int v12)]) (st' := [.int v11, .ref v10, .int x2]) rfl ?_
        refine xZ.k_aI (me := xm186) hP_186 rfl (fun x3 => ?_)
        refine xZ.ic_ne (me := xm186) hP_186 rfl (fun h3 => ?_) (fun h3 => ?_)
        · skip
          refine xZ.adv (me := xm186) hP_186 1 (pc' := 429) (lv' := [(0, .ref v0), (1, .ref v1), (4, .ref v4), (5, .int v5), (6, .int v6), (7, .ref v7), (9, .int v9), (10, .ref v10), (11, .int v11), (12, .int v12)]) (st' := [.ref v7]) rfl ?_
          refine xZ.k_gR (me := xm186) hP_186 rfl (fun x4 => ?_)
          refine xZ.adv (me := xm186) hP_186 1 (pc' := 434) (lv' := [(0, .ref v0), (1, .ref v1), (4, .ref v4), (5, .int v5), (6, .int v6), (7, .ref v7), (9, .int v9), (10, .ref v10), (11, .int v11), (12, .int v12)]) (st' := [.int v11, .ref x4]) rfl ?_
          refine xZ.k_aI (me := xm186) hP_186 rfl (fun x5 => ?_)
          refine xZ.adv (me := xm186) hP_186 2 (pc' := 439) (lv' := [(0, .ref v0), (1, .ref v1), (4, .ref v4), (5, .int v5), (6, .int v6), (7, .ref v7), (9, .int v9), (10, .ref v10), (11, .int v11), (12, .int v12)]) (st' := [.int v12, .ref v7, .int x5]) rfl ?_
          refine xZ.callv (κ := oI) (av := [.int v12]) (rest := [.int x5]) (st' := fun x6 => [.int x6, .int x5]) (k0 := v7) (me := xm186) hP_186 rfl (Or.inl rfl) ⟨rfl, by decide⟩ rfl rfl (Nat.le_of_ble_eq_true rfl) (by decide) hP_154 (Nat.le_of_ble_eq_true rfl) (fun _ => rfl) (k_f_LDates_end O f (d + 8) v7 v12 M) (fun x6 M1 => ?_)
          refine xZ.ic_ge (me := xm186) hP_186 rfl (fun h4 => ?_) (fun h4 => ?_)
          · skip
            refine xZ.adv (me := xm186) hP_186 2 (pc' := 398) (lv' := [(12, .int (v12 + (1 : Int32))), (0, .ref v0), (1, .ref v1), (4, .ref v4), (5, .int v5), (6, .int v6), (7, .ref v7), (9, .int v9), (10, .ref v10), (11, .int v11)]) (st' := []) rfl ?_
            exact xZ.sub (xsc (.tail _ (.head _)) (xsc (.tail _ (.tail _ (.head _))) (xsc (.tail _ (.tail _ (.tail _ (.head _)))) (xsc (.tail _ (.tail _ (.tail _ (.tail _ (.head _))))) (xsc (.tail _ (.tail _ (.tail _ (.tail _ (.tail _ (.head _)))))) (xsc (.tail _ (.tail _ (.tail _ (.tail _ (.tail _ (.tail _ (.head _))))))) (xsc (.tail _ (.tail _ (.tail _ (.tail _ (.tail _ (.tail _ (.tail _ (.head _)))))))) (xsc (.tail _ (.tail _ (.tail _ (.tail _ (.tail _ (.tail _ (.tail _ (.tail _ (.head _))))))))) (xsc (.tail _ (.tail _ (.tail _ (.tail _ (.tail _ (.tail _ (.tail _ (.tail _ (.tail _ (.head _)))))))))) (xsc (.head _) xsn)))))))))) (show ([12, 0, 1, 4, 5, 6, 7, 9, 10, 11] : List Nat).Nodup from by decide) (ih v0 v1 v4 v5 v6 v7 v9 v10 v11 (v12 + (1 : Int32)) M1)
          · skip
            refine xZ.adv (me := xm186) hP_186 1 (pc' := 447) (lv' := [(0, .ref v0), (1, .ref v1), (4, .ref v4), (5, .int v5), (6, .int v6), (7, .ref v7), (9, .int v9), (10, .ref v10), (11, .int v11), (12, .int v12)]) (st' := [.ref v7]) rfl ?_
            refine xZ.k_gR (me := xm186) hP_186 rfl (fun x7 => ?_)
            refine xZ.adv (me := xm186) hP_186 1 (pc' := 452) (lv' := [(0, .ref v0), (1, .ref v1), (4, .ref v4), (5, .int v5), (6, .int v6), (7, .ref v7), (9, .int v9), (10, .ref v10), (11, .int v11), (12, .int v12)]) (st' := [.int v12, .ref x7]) rfl ?_
            refine xZ.k_aI (me := xm186) hP_186 rfl (fun x8 => ?_)
            refine xZ.adv (me := xm186) hP_186 2 (pc' := 457) (lv' := [(0, .ref v0), (1, .ref v1), (4, .ref v4), (5, .int v5), (6, .int v6), (7, .ref v7), (9, .int v9), (10, .ref v10), (11, .int v11), (12, .int v12)]) (st' := [.int v11, .ref v7, .int x8]) rfl ?_
            refine xZ.callv (κ := oI) (av := [.int v11]) (rest := [.int x8]) (st' := fun x9 => [.int x9, .int x8]) (k0 := v7) (me := xm186) hP_186 rfl (Or.inl rfl) ⟨rfl, by decide⟩ rfl rfl (Nat.le_of_ble_eq_true rfl) (by decide) hP_154 (Nat.le_of_ble_eq_true rfl) (fun _ => rfl) (k_f_LDates_end O f (d + 8) v7 v11 M1) (fun x9 M2 => ?_)
            refine xZ.ic_ge (me := xm186) hP_186 rfl (fun h5 => ?_) (fun h5 => ?_)
            · skip
              refine xZ.adv (me := xm186) hP_186 2 (pc' := 398) (lv' := [(12, .int (v12 + (1 : Int32))), (0, .ref v0), (1, .ref v1), (4, .ref v4), (5, .int v5), (6, .int v6), (7, .ref v7), (9, .int v9), (10, .ref v10), (11, .int v11)]) (st' := []) rfl ?_
              exact xZ.sub (xsc (.tail _ (.head _)) (xsc (.tail _ (.tail _ (.head _))) (xsc (.tail _ (.tail _ (.tail _ (.head _)))) (xsc (.tail _ (.tail _ (.tail _ (.tail _ (.head _))))) (xsc (.tail _ (.tail _ (.tail _ (.tail _ (.tail _ (.head _)))))) (xsc (.tail _ (.tail _ (.tail _ (.tail _ (.tail _ (.tail _ (.head _))))))) (xsc (.tail _ (.tail _ (.tail _ (.tail _ (.tail _ (.tail _ (.tail _ (.head _)))))))) (xsc (.tail _ (.tail _ (.tail _ (.tail _ (.tail _ (.tail _ (.tail _ (.tail _ (.head _))))))))) (xsc (.tail _ (.tail _ (.tail _ (.tail _ (.tail _ (.tail _ (.tail _ (.tail _ (.tail _ (.head _)))))))))) (xsc (.head _) xsn)))))))))) (show ([12, 0, 1, 4, 5, 6, 7, 9, 10, 11] : List Nat).Nodup from by decide) (ih v0 v1 v4 v5 v6 v7 v9 v10 v11 (v12 + (1 : Int32)) M2)
            · skip
              refine xZ.adv (me := xm186) hP_186 1 (pc' := 464) (lv' := [(0, .ref v0), (1, .ref v1), (4, .ref v4), (5, .int v5), (6, .int v6), (7, .ref v7), (9, .int v9), (10, .ref v10), (11, .int v11), (12, .int v12)]) (st' := [.int (0 : Int32)]) rfl ?_
              exact xZ.rete (me := xm186) hP_186 rfl rfl rfl
        · skip
          refine xZ.adv (me := xm186) hP_186 2 (pc' := 398) (lv' := [(12, .int (v12 + (1 : Int32))), (0, .ref v0), (1, .ref v1), (4, .ref v4), (5, .int v5), (6, .int v6), (7, .ref v7), (9, .int v9), (10, .ref v10), (11, .int v11)]) (st' := []) rfl ?_
          exact xZ.sub (xsc (.tail _ (.head _)) (xsc (.tail _ (.tail _ (.head _))) (xsc (.tail _ (.tail _ (.tail _ (.head _)))) (xsc (.tail _ (.tail _ (.tail _ (.tail _ (.head _))))) (xsc (.tail _ (.tail _ (.tail _ (.tail _ (.tail _ (.head _)))))) (xsc (.tail _ (.tail _ (.tail _ (.tail _ (.tail _ (.tail _ (.head _))))))) (xsc (.tail _ (.tail _ (.tail _ (.tail _ (.tail _ (.tail _ (.tail _ (.head _)))))))) (xsc (.tail _ (.tail _ (.tail _ (.tail _ (.tail _ (.tail _ (.tail _ (.tail _ (.head _))))))))) (xsc (.tail _ (.tail _ (.tail _ (.tail _ (.tail _ (.tail _ (.tail _ (.tail _ (.tail _ (.head _)))))))))) (xsc (.head _) xsn)))))))))) (show ([12, 0, 1, 4, 5, 6, 7, 9, 10, 11] : List Nat).Nodup from by decide) (ih v0 v1 v4 v5 v6 v7 v9 v10 v11 (v12 + (1 : Int32)) M)
def f_Law_areLaid_392 (O : Nat → Option va_E) (f : Nat) (K303 : Nat → Nat → Nat → Int32 → Int32 → Nat → Int32 → Nat → Int32 → xM → Option (Int32 × xM)) (v0 : Nat) (v1 : Nat) (v4 : Nat) (v5 : Int32) (v6 : Int32) (v7 : Nat) (v10 : Nat) (v11 : Int32) (s0 : Int32) (s1 : Int32) (M : xM) : Option (Int32 × xM) :=
  f_Law_areLaid_398 O f K303 f v0 v1 v4 v5 v6 v7 (s0 - s1) v10 v11 (0 : Int32) M
set_option maxRecDepth 20000 in
theorem k_f_Law_areLaid_392 (O : Nat → Option va_E) (f d : Nat) (K303 : Nat → Nat → Nat → Int32 → Int32 → Nat → Int32 → Nat → Int32 → xM → Option (Int32 × xM)) (hK303 : ∀ (v0 : Nat) (v1 : Nat) (v4 : Nat) (v5 : Int32) (v6 : Int32) (v7 : Nat) (v9 : Int32) (v10 : Nat) (v11 : Int32) M, xZ oI O (d + 9) 186 303 [(0, .ref v0), (1, .ref v1), (4, .ref v4), (5, .int v5), (6, .int v6), (7, .ref v7), (9, .int v9), (10, .ref v10), (11, .int v11)] [] M (K303 v0 v1 v4 v5 v6 v7 v9 v10 v11 M)) (v0 : Nat) (v1 : Nat) (v4 : Nat) (v5 : Int32) (v6 : Int32) (v7 : Nat) (v10 : Nat) (v11 : Int32) (s0 : Int32) (s1 : Int32) (M : xM) : xZ oI O (d + 9) 186 392 [(0, .ref v0), (1, .ref v1), (4, .ref v4), (5, .int v5), (6, .int v6), (7, .ref v7), (10, .ref v10), (11, .int v11)] [.int s1, .int s0] M (f_Law_areLaid_392 O f K303 v0 v1 v4 v5 v6 v7 v10 v11 s0 s1 M) := by
  unfold f_Law_areLaid_392
  refine xZ.adv (me := xm186) hP_186 4 (pc' := 398) (lv' := [(12, .int (0 : Int32)), (9, .int (s0 - s1)), (0, .ref v0), (1, .ref v1), (4, .ref v4), (5, .int v5), (6, .int v6), (7, .ref v7), (10, .ref v10), (11, .int v11)]) (st' := []) rfl ?_
  exact xZ.sub (xsc (.tail _ (.tail _ (.head _))) (xsc (.tail _ (.tail _ (.tail _ (.head _)))) (xsc (.tail _ (.tail _ (.tail _ (.tail _ (.head _))))) (xsc (.tail _ (.tail _ (.tail _ (.tail _ (.tail _ (.head _)))))) (xsc (.tail _ (.tail _ (.tail _ (.tail _ (.tail _ (.tail _ (.head _))))))) (xsc (.tail _ (.tail _ (.tail _ (.tail _ (.tail _ (.tail _ (.tail _ (.head _)))))))) (xsc (.tail _ (.head _)) (xsc (.tail _ (.tail _ (.tail _ (.tail _ (.tail _ (.tail _ (.tail _ (.tail _ (.head _))))))))) (xsc (.tail _ (.tail _ (.tail _ (.tail _ (.tail _ (.tail _ (.tail _ (.tail _ (.tail _ (.head _)))))))))) (xsc (.head _) xsn)))))))))) (show ([12, 9, 0, 1, 4, 5, 6, 7, 10, 11] : List Nat).Nodup from by decide) (k_f_Law_areLaid_398 O f d K303 hK303 f v0 v1 v4 v5 v6 v7 (s0 - s1) v10 v11 (0 : Int32) M)
def f_Law_areLaid_391 (O : Nat → Option va_E) (f : Nat) (K303 : Nat → Nat → Nat → Int32 → Int32 → Nat → Int32 → Nat → Int32 → xM → Option (Int32 × xM)) (v0 : Nat) (v1 : Nat) (v4 : Nat) (v5 : Int32) (v6 : Int32) (v7 : Nat) (v10 : Nat) (v11 : Int32) (s0 : Int32) (M : xM) : Option (Int32 × xM) :=
  f_Law_areLaid_392 O f K303 v0 v1 v4 v5 v6 v7 v10 v11 s0 (0 : Int32) M
set_option maxRecDepth 20000 in
theorem k_f_Law_areLaid_391 (O : Nat → Option va_E) (f d : Nat) (K303 : Nat → Nat → Nat → Int32 → Int32 → Nat → Int32 → Nat → Int32 → xM → Option (Int32 × xM)) (hK303 : ∀ (v0 : Nat) (v1 : Nat) (v4 : Nat) (v5 : Int32) (v6 : Int32) (v7 : Nat) (v9 : Int32) (v10 : Nat) (v11 : Int32) M, xZ oI O (d + 9) 186 303 [(0, .ref v0), (1, .ref v1), (4, .ref v4), (5, .int v5), (6, .int v6), (7, .ref v7), (9, .int v9), (10, .ref v10), (11, .int v11)] [] M (K303 v0 v1 v4 v5 v6 v7 v9 v10 v11 M)) (v0 : Nat) (v1 : Nat) (v4 : Nat) (v5 : Int32) (v6 : Int32) (v7 : Nat) (v10 : Nat) (v11 : Int32) (s0 : Int32) (M : xM) : xZ oI O (d + 9) 186 391 [(0, .ref v0), (1, .ref v1), (4, .ref v4), (5, .int v5), (6, .int v6), (7, .ref v7), (10, .ref v10), (11, .int v11)] [.int s0] M (f_Law_areLaid_391 O f K303 v0 v1 v4 v5 v6 v7 v10 v11 s0 M) := by
  unfold f_Law_areLaid_391
  refine xZ.adv (me := xm186) hP_186 1 (pc' := 392) (lv' := [(0, .ref v0), (1, .ref v1), (4, .ref v4), (5, .int v5), (6, .int v6), (7, .ref v7), (10, .ref v10), (11, .int v11)]) (st' := [.int (0 : Int32), .int s0]) rfl ?_
  exact (k_f_Law_areLaid_392 O f d K303 hK303 v0 v1 v4 v5 v6 v7 v10 v11 s0 (0 : Int32) M)
def f_Law_areLaid_358 (O : Nat → Option va_E) (f : Nat) (K303 : Nat → Nat → Nat → Int32 → Int32 → Nat → Int32 → Nat → Int32 → xM → Option (Int32 × xM)) (v0 : Nat) (v1 : Nat) (v4 : Nat) (v5 : Int32) (v6 : Int32) (v7 : Nat) (v9 : Int32) (v10 : Nat) (v11 : Int32) (s0 : Nat) (s1 : Int32) (s2 : Int32) (M : xM) : Option (Int32 × xM) :=
  (wI M s0 s1 s2).bind fun M1 =>
  (gR O M1 v7 13 0).bind fun x1 =>
  (aI O M1 x1 v11).bind fun x2 =>
  (isO O M1 v0 12).bind fun _ =>
  xcl (f_Calendarhall_seriesAt O f v0 x2 (5 : Int32) M1) fun x3 M2 =>
  if x3 = (1 : Int32) then (
    (aI O M2 v10 v11).bind fun x4 =>
    if x4 = (-1 : Int32) then (
      f_Law_areLaid_392 O f K303 v0 v1 v4 v5 v6 v7 v10 v11 v9 (1 : Int32) M2
    ) else
    f_Law_areLaid_391 O f K303 v0 v1 v4 v5 v6 v7 v10 v11 v9 M2
  ) else
  f_Law_areLaid_391 O f K303 v0 v1 v4 v5 v6 v7 v10 v11 v9 M2
set_option maxRecDepth 20000 in
theorem k_f_Law_areLaid_358 (O : Nat → Option va_E) (f d : Nat) (K303 : Nat → Nat → Nat → Int32 → Int32 → Nat → Int32 → Nat → Int32 → xM → Option (Int32 × xM)) (hK303 : ∀ (v0 : Nat) (v1 : Nat) (v4 : Nat) (v5 : Int32) (v6 : Int32) (v7 : Nat) (v9 : Int32) (v10 : Nat) (v11 : Int32) M, xZ oI O (d + 9) 186 303 [(0, .ref v0), (1, .ref v1), (4, .ref v4), (5, .int v5), (6, .int v6), (7, .ref v7), (9, .int v9), (10, .ref v10), (11, .int v11)] [] M (K303 v0 v1 v4 v5 v6 v7 v9 v10 v11 M)) (v0 : Nat) (v1 : Nat) (v4 : Nat) (v5 : Int32) (v6 : Int32) (v7 : Nat) (v9 : Int32) (v10 : Nat) (v11 : Int32) (s0 : Nat) (s1 : Int32) (s2 : Int32) (M : xM) : xZ oI O (d + 9) 186 358 [(0, .ref v0), (1, .ref v1), (4, .ref v4), (5, .int v5), (6, .int v6), (7, .ref v7), (9, .int v9), (10, .ref v10), (11, .int v11)] [.int s2, .int s1, .ref s0] M (f_Law_areLaid_358 O f K303 v0 v1 v4 v5 v6 v7 v9 v10 v11 s0 s1 s2 M) := by
  unfold f_Law_areLaid_358
  refine xZ.k_wI (me := xm186) hP_186 rfl (fun M1 => ?_)
  refine xZ.adv (me := xm186) hP_186 3 (pc' := 364) (lv' := [(0, .ref v0), (1, .ref v1), (4, .ref v4), (5, .int v5), (6, .int v6), (7, .ref v7), (9, .int v9), (10, .ref v10), (11, .int v11)]) (st' := [.ref v7, .ref v0, .int v9]) rfl ?_
  refine xZ.k_gR (me := xm186) hP_186 rfl (fun x1 => ?_)
  refine xZ.adv (me := xm186) hP_186 1 (pc' := 369) (lv' := [(0, .ref v0), (1, .ref v1), (4, .ref v4), (5, .int v5), (6, .int v6), (7, .ref v7), (9, .int v9), (10, .ref v10), (11, .int v11)]) (st' := [.int v11, .ref x1, .ref v0, .int v9]) rfl ?_
  refine xZ.k_aI (me := xm186) hP_186 rfl (fun x2 => ?_)
  refine xZ.adv (me := xm186) hP_186 1 (pc' := 371) (lv' := [(0, .ref v0), (1, .ref v1), (4, .ref v4), (5, .int v5), (6, .int v6), (7, .ref v7), (9, .int v9), (10, .ref v10), (11, .int v11)]) (st' := [.int (5 : Int32), .int x2, .ref v0, .int v9]) rfl ?_
  refine xZ.callv (κ := oI) (av := [.int x2, .int (5 : Int32)]) (rest := [.int v9]) (st' := fun x3 => [.int x3, .int v9]) (k0 := v0) (me := xm186) hP_186 rfl (Or.inl rfl) ⟨rfl, by decide⟩ rfl rfl (Nat.le_of_ble_eq_true rfl) (by decide) hP_126 (Nat.le_of_ble_eq_true rfl) (fun _ => rfl) (k_f_Calendarhall_seriesAt O f (d + 6) v0 x2 (5 : Int32) M1) (fun x3 M2 => ?_)
  refine xZ.adv (me := xm186) hP_186 1 (pc' := 375) (lv' := [(0, .ref v0), (1, .ref v1), (4, .ref v4), (5, .int v5), (6, .int v6), (7, .ref v7), (9, .int v9), (10, .ref v10), (11, .int v11)]) (st' := [.int (1 : Int32), .int x3, .int v9]) rfl ?_
  refine xZ.ic_ne (me := xm186) hP_186 rfl (fun h1 => ?_) (fun h1 => ?_)
  · skip
    refine xZ.adv (me := xm186) hP_186 2 (pc' := 382) (lv' := [(0, .ref v0), (1, .ref v1), (4, .ref v4), (5, .int v5), (6, .int v6), (7, .ref v7), (9, .int v9), (10, .ref v10), (11, .int v11)]) (st' := [.int v11, .ref v10, .int v9]) rfl ?_
    refine xZ.k_aI (me := xm186) hP_186 rfl (fun x4 => ?_)
    refine xZ.adv (me := xm186) hP_186 1 (pc' := 384) (lv' := [(0, .ref v0), (1, .ref v1), (4, .ref v4), (5, .int v5), (6, .int v6), (7, .ref v7), (9, .int v9), (10, .ref v10), (11, .int v11)]) (st' := [.int (-1 : Int32), .int x4, .int v9]) rfl ?_
    refine xZ.ic_ne (me := xm186) hP_186 rfl (fun h2 => ?_) (fun h2 => ?_)
    · skip
      refine xZ.adv (me := xm186) hP_186 2 (pc' := 392) (lv' := [(0, .ref v0), (1, .ref v1), (4, .ref v4), (5, .int v5), (6, .int v6), (7, .ref v7), (9, .int v9), (10, .ref v10), (11, .int v11)]) (st' := [.int (1 : Int32), .int v9]) rfl ?_
      exact xZ.sub (xsc (.head _) (xsc (.tail _ (.head _)) (xsc (.tail _ (.tail _ (.head _))) (xsc (.tail _ (.tail _ (.tail _ (.head _)))) (xsc (.tail _ (.tail _ (.tail _ (.tail _ (.head _))))) (xsc (.tail _ (.tail _ (.tail _ (.tail _ (.tail _ (.head _)))))) (xsc (.tail _ (.tail _ (.tail _ (.tail _ (.tail _ (.tail _ (.tail _ (.head _)))))))) (xsc (.tail _ (.tail _ (.tail _ (.tail _ (.tail _ (.tail _ (.tail _ (.tail _ (.head _))))))))) xsn)))))))) (show ([0, 1, 4, 5, 6, 7, 9, 10, 11] : List Nat).Nodup from by decide) (k_f_Law_areLaid_392 O f d K303 hK303 v0 v1 v4 v5 v6 v7 v10 v11 v9 (1 : Int32) M2)
    · skip
      exact xZ.sub (xsc (.head _) (xsc (.tail _ (.head _)) (xsc (.tail _ (.tail _ (.head _))) (xsc (.tail _ (.tail _ (.tail _ (.head _)))) (xsc (.tail _ (.tail _ (.tail _ (.tail _ (.head _))))) (xsc (.tail _ (.tail _ (.tail _ (.tail _ (.tail _ (.head _)))))) (xsc (.tail _ (.tail _ (.tail _ (.tail _ (.tail _ (.tail _ (.tail _ (.head _)))))))) (xsc (.tail _ (.tail _ (.tail _ (.tail _ (.tail _ (.tail _ (.tail _ (.tail _ (.head _))))))))) xsn)))))))) (show ([0, 1, 4, 5, 6, 7, 9, 10, 11] : List Nat).Nodup from by decide) (k_f_Law_areLaid_391 O f d K303 hK303 v0 v1 v4 v5 v6 v7 v10 v11 v9 M2)
  · skip
    exact xZ.sub (xsc (.head _) (xsc (.tail _ (.head _)) (xsc (.tail _ (.tail _ (.head _))) (xsc (.tail _ (.tail _ (.tail _ (.head _)))) (xsc (.tail _ (.tail _ (.tail _ (.tail _ (.head _))))) (xsc (.tail _ (.tail _ (.tail _ (.tail _ (.tail _ (.head _)))))) (xsc (.tail _ (.tail _ (.tail _ (.tail _ (.tail _ (.tail _ (.tail _ (.head _)))))))) (xsc (.tail _ (.tail _ (.tail _ (.tail _ (.tail _ (.tail _ (.tail _ (.tail _ (.head _))))))))) xsn)))))))) (show ([0, 1, 4, 5, 6, 7, 9, 10, 11] : List Nat).Nodup from by decide) (k_f_Law_areLaid_391 O f d K303 hK303 v0 v1 v4 v5 v6 v7 v10 v11 v9 M2)
def f_Law_areLaid_303 (O : Nat → Option va_E) (f : Nat) : Nat → Nat → Nat → Nat → Int32 → Int32 → Nat → Int32 → Nat → Int32 → xM → Option (Int32 × xM)
  | 0, _, _, _, _, _, _, _, _, _, _ => none
  | n + 1, v0, v1, v4, v5, v6, v7, v9, v10, v11, M =>
    (gI O M v7 13 4).bind fun x1 =>
    if x1 ≤ v11 then (
      if v9 = 0 then (
        (isO O M v1 15).bind fun _ =>
        xcl (f_LDraw_n O f v1 (3 : Int32) M) fun x2 M1 =>
        f_Law_areLaid_497 O f f v0 v4 v5 v6 v7 v10 x2 (0 : Int32) (0 : Int32) M1
      ) else
      some ((0 : Int32), M)
    ) else
    (gR O M v7 13 0).bind fun x3 =>
    (aI O M x3 v11).bind fun x4 =>
    (isO O M v0 12).bind fun _ =>
    xcl (f_Calendarhall_seriesAt O f v0 x4 (5 : Int32) M) fun x5 M2 =>
    if x5 = (1 : Int32) then (
      (gR O M2 v7 13 0).bind fun x6 =>
      (aI O M2 x6 v11).bind fun x7 =>
      (gR O M2 v7 13 1).bind fun x8 =>
      (aI O M2 x8 v11).bind fun x9 =>
      (isO O M2 v0 12).bind fun _ =>
      xcl (f_Calendarhall_roomOf O f v0 x7 x9 M2) fun x10 M3 =>
      f_Law_areLaid_358 O f (f_Law_areLaid_303 O f n) v0 v1 v4 v5 v6 v7 v9 v10 v11 v10 v11 x10 M3
    ) else
    f_Law_areLaid_358 O f (f_Law_areLaid_303 O f n) v0 v1 v4 v5 v6 v7 v9 v10 v11 v10 v11 (-1 : Int32) M2
set_option maxRecDepth 20000 in
theorem k_f_Law_areLaid_303 (O : Nat → Option va_E) (f d : Nat) : ∀ (n : Nat) (v0 : Nat) (v1 : Nat) (v4 : Nat) (v5 : Int32) (v6 : Int32) (v7 : Nat) (v9 : Int32) (v10 : Nat) (v11 : Int32) (M : xM), xZ oI O (d + 9) 186 303 [(0, .ref v0), (1, .ref v1), (4, .ref v4), (5, .int v5), (6, .int v6), (7, .ref v7), (9, .int v9), (10, .ref v10), (11, .int v11)] [] M (f_Law_areLaid_303 O f n v0 v1 v4 v5 v6 v7 v9 v10 v11 M) := by
  intro n
  induction n with
  | zero =>
    intro v0 v1 v4 v5 v6 v7 v9 v10 v11 M
    exact xZ.no
  | succ n ih =>
    intro v0 v1 v4 v5 v6 v7 v9 v10 v11 M
    unfold f_Law_areLaid_303
    refine xZ.adv (me := xm186) hP_186 2 (pc' := 307) (lv' := [(0, .ref v0), (1, .ref v1), (4, .ref v4), (5, .int v5), (6, .int v6), (7, .ref v7), (9, .int v9), (10, .ref v10), (11, .int v11)]) (st' := [.ref v7, .int v11]) rfl ?_
    refine xZ.k_gI (me := xm186) hP_186 rfl (fun x1 => ?_)
    refine xZ.ic_ge (me := xm186) hP_186 rfl (fun h1 => ?_) (fun h1 => ?_)
    · skip
      refine xZ.adv (me := xm186) hP_186 1 (pc' := 479) (lv' := [(0, .ref v0), (1, .ref v1), (4, .ref v4), (5, .int v5), (6, .int v6), (7, .ref v7), (9, .int v9), (10, .ref v10), (11, .int v11)]) (st' := [.int v9]) rfl ?_
      refine xZ.if_eq (me := xm186) hP_186 rfl (fun h2 => ?_) (fun h2 => ?_)
      · skip
        refine xZ.adv (me := xm186) hP_186 2 (pc' := 486) (lv' := [(0, .ref v0), (1, .ref v1), (4, .ref v4), (5, .int v5), (6, .int v6), (7, .ref v7), (9, .int v9), (10, .ref v10), (11, .int v11)]) (st' := [.int (3 : Int32), .ref v1]) rfl ?_
        refine xZ.callv (κ := oI) (av := [.int (3 : Int32)]) (rest := []) (st' := fun x2 => [.int x2]) (k0 := v1) (me := xm186) hP_186 rfl (Or.inl rfl) ⟨rfl, by decide⟩ rfl rfl (Nat.le_of_ble_eq_true rfl) (by decide) hP_12 (Nat.le_of_ble_eq_true rfl) (fun _ => rfl) (k_f_LDraw_n O f (d + 8) v1 (3 : Int32) M) (fun x2 M1 => ?_)
        refine xZ.adv (me := xm186) hP_186 5 (pc' := 497) (lv' := [(13, .int (0 : Int32)), (12, .int (0 : Int32)), (11, .int x2), (0, .ref v0), (1, .ref v1), (4, .ref v4), (5, .int v5), (6, .int v6), (7, .ref v7), (9, .int v9), (10, .ref v10)]) (st' := []) rfl ?_
        exact xZ.sub (xsc (.tail _ (.tail _ (.tail _ (.head _)))) (xsc (.tail _ (.tail _ (.tail _ (.tail _ (.tail _ (.head _)))))) (xsc (.tail _ (.tail _ (.tail _ (.tail _ (.tail _ (.tail _ (.head _))))))) (xsc (.tail _ (.tail _ (.tail _ (.tail _ (.tail _ (.tail _ (.tail _ (.head _)))))))) (xsc (.tail _ (.tail _ (.tail _ (.tail _ (.tail _ (.tail _ (.tail _ (.tail _ (.head _))))))))) (xsc (.tail _ (.tail _ (.tail _ (.tail _ (.tail _ (.tail _ (.tail _ (.tail _ (.tail _ (.tail _ (.head _))))))))))) (xsc (.tail _ (.tail _ (.head _))) (xsc (.tail _ (.head _)) (xsc (.head _) xsn))))))))) (show ([13, 12, 11, 0, 1, 4, 5, 6, 7, 9, 10] : List Nat).Nodup from by decide) (k_f_Law_areLaid_497 O f d f v0 v4 v5 v6 v7 v10 x2 (0 : Int32) (0 : Int32) M1)
      · skip
        refine xZ.adv (me := xm186) hP_186 1 (pc' := 483) (lv' := [(0, .ref v0), (1, .ref v1), (4, .ref v4), (5, .int v5), (6, .int v6), (7, .ref v7), (9, .int v9), (10, .ref v10), (11, .int v11)]) (st' := [.int (0 : Int32)]) rfl ?_
        exact xZ.rete (me := xm186) hP_186 rfl rfl rfl
    · skip
      refine xZ.adv (me := xm186) hP_186 4 (pc' := 320) (lv' := [(0, .ref v0), (1, .ref v1), (4, .ref v4), (5, .int v5), (6, .int v6), (7, .ref v7), (9, .int v9), (10, .ref v10), (11, .int v11)]) (st' := [.ref v7, .ref v0, .int v11, .ref v10]) rfl ?_
      refine xZ.k_gR (me := xm186) hP_186 rfl (fun x3 => ?_)
      refine xZ.adv (me := xm186) hP_186 1 (pc' := 325) (lv' := [(0, .ref v0), (1, .ref v1), (4, .ref v4), (5, .int v5), (6, .int v6), (7, .ref v7), (9, .int v9), (10, .ref v10), (11, .int v11)]) (st' := [.int v11, .ref x3, .ref v0, .int v11, .ref v10]) rfl ?_
      refine xZ.k_aI (me := xm186) hP_186 rfl (fun x4 => ?_)
      refine xZ.adv (me := xm186) hP_186 1 (pc' := 327) (lv' := [(0, .ref v0), (1, .ref v1), (4, .ref v4), (5, .int v5), (6, .int v6), (7, .ref v7), (9, .int v9), (10, .ref v10), (11, .int v11)]) (st' := [.int (5 : Int32), .int x4, .ref v0, .int v11, .ref v10]) rfl ?_
      refine xZ.callv (κ := oI) (av := [.int x4, .int (5 : Int32)]) (rest := [.int v11, .ref v10]) (st' := fun x5 => [.int x5, .int v11, .ref v10]) (k0 := v0) (me := xm186) hP_186 rfl (Or.inl rfl) ⟨rfl, by decide⟩ rfl rfl (Nat.le_of_ble_eq_true rfl) (by decide) hP_126 (Nat.le_of_ble_eq_true rfl) (fun _ => rfl) (k_f_Calendarhall_seriesAt O f (d + 6) v0 x4 (5 : Int32) M) (fun x5 M2 => ?_)
      refine xZ.adv (me := xm186) hP_186 1 (pc' := 331) (lv' := [(0, .ref v0), (1, .ref v1), (4, .ref v4), (5, .int v5), (6, .int v6), (7, .ref v7), (9, .int v9), (10, .ref v10), (11, .int v11)]) (st' := [.int (1 : Int32), .int x5, .int v11, .ref v10]) rfl ?_
      refine xZ.ic_ne (me := xm186) hP_186 rfl (fun h3 => ?_) (fun h3 => ?_)
      · skip
        refine xZ.adv (me := xm186) hP_186 2 (pc' := 337) (lv' := [(0, .ref v0), (1, .ref v1), (4, .ref v4), (5, .int v5), (6, .int v6), (7, .ref v7), (9, .int v9), (10, .ref v10), (11, .int v11)]) (st' := [.ref v7, .ref v0, .int v11, .ref v10]) rfl ?_
        refine xZ.k_gR (me := xm186) hP_186 rfl (fun x6 => ?_)
        refine xZ.adv (me := xm186) hP_186 1 (pc' := 342) (lv' := [(0, .ref v0), (1, .ref v1), (4, .ref v4), (5, .int v5), (6, .int v6), (7, .ref v7), (9, .int v9), (10, .ref v10), (11, .int v11)]) (st' := [.int v11, .ref x6, .ref v0, .int v11, .ref v10]) rfl ?_
        refine xZ.k_aI (me := xm186) hP_186 rfl (fun x7 => ?_)
        refine xZ.adv (me := xm186) hP_186 1 (pc' := 345) (lv' := [(0, .ref v0), (1, .ref v1), (4, .ref v4), (5, .int v5), (6, .int v6), (7, .ref v7), (9, .int v9), (10, .ref v10), (11, .int v11)]) (st' := [.ref v7, .int x7, .ref v0, .int v11, .ref v10]) rfl ?_
        refine xZ.k_gR (me := xm186) hP_186 rfl (fun x8 => ?_)
        refine xZ.adv (me := xm186) hP_186 1 (pc' := 350) (lv' := [(0, .ref v0), (1, .ref v1), (4, .ref v4), (5, .int v5), (6, .int v6), (7, .ref v7), (9, .int v9), (10, .ref v10), (11, .int v11)]) (st' := [.int v11, .ref x8, .int x7, .ref v0, .int v11, .ref v10]) rfl ?_
        refine xZ.k_aI (me := xm186) hP_186 rfl (fun x9 => ?_)
        refine xZ.callv (κ := oI) (av := [.int x7, .int x9]) (rest := [.int v11, .ref v10]) (st' := fun x10 => [.int x10, .int v11, .ref v10]) (k0 := v0) (me := xm186) hP_186 rfl (Or.inl rfl) ⟨rfl, by decide⟩ rfl rfl (Nat.le_of_ble_eq_true rfl) (by decide) hP_195 (Nat.le_of_ble_eq_true rfl) (fun _ => rfl) (k_f_Calendarhall_roomOf O f (d + 7) v0 x7 x9 M2) (fun x10 M3 => ?_)
        refine xZ.adv (me := xm186) hP_186 1 (pc' := 358) (lv' := [(0, .ref v0), (1, .ref v1), (4, .ref v4), (5, .int v5), (6, .int v6), (7, .ref v7), (9, .int v9), (10, .ref v10), (11, .int v11)]) (st' := [.int x10, .int v11, .ref v10]) rfl ?_
        exact (k_f_Law_areLaid_358 O f d (f_Law_areLaid_303 O f n) ih v0 v1 v4 v5 v6 v7 v9 v10 v11 v10 v11 x10 M3)
      · skip
        refine xZ.adv (me := xm186) hP_186 1 (pc' := 358) (lv' := [(0, .ref v0), (1, .ref v1), (4, .ref v4), (5, .int v5), (6, .int v6), (7, .ref v7), (9, .int v9), (10, .ref v10), (11, .int v11)]) (st' := [.int (-1 : Int32), .int v11, .ref v10]) rfl ?_
        exact (k_f_Law_areLaid_358 O f d (f_Law_areLaid_303 O f n) ih v0 v1 v4 v5 v6 v7 v9 v10 v11 v10 v11 (-1 : Int32) M2)
def f_Law_areLaid_286 (O : Nat → Option va_E) (f : Nat) (v0 : Nat) (v1 : Nat) (v4 : Nat) (v5 : Int32) (v6 : Int32) (v7 : Nat) (v9 : Int32) (s0 : Int32) (s1 : Int32) (M : xM) : Option (Int32 × xM) :=
  if s0 = s1 then (
    (gI O M v7 13 4).bind fun x1 =>
    xcl (nA M 0 x1) fun x2 M1 =>
    f_Law_areLaid_303 O f f v0 v1 v4 v5 v6 v7 v9 x2 (0 : Int32) M1
  ) else
  some ((0 : Int32), M)
set_option maxRecDepth 20000 in
theorem k_f_Law_areLaid_286 (O : Nat → Option va_E) (f d : Nat) (v0 : Nat) (v1 : Nat) (v4 : Nat) (v5 : Int32) (v6 : Int32) (v7 : Nat) (v9 : Int32) (s0 : Int32) (s1 : Int32) (M : xM) : xZ oI O (d + 9) 186 286 [(0, .ref v0), (1, .ref v1), (4, .ref v4), (5, .int v5), (6, .int v6), (7, .ref v7), (9, .int v9)] [.int s1, .int s0] M (f_Law_areLaid_286 O f v0 v1 v4 v5 v6 v7 v9 s0 s1 M) := by
  unfold f_Law_areLaid_286
  refine xZ.ic_eq (me := xm186) hP_186 rfl (fun h1 => ?_) (fun h1 => ?_)
  · skip
    refine xZ.adv (me := xm186) hP_186 1 (pc' := 293) (lv' := [(0, .ref v0), (1, .ref v1), (4, .ref v4), (5, .int v5), (6, .int v6), (7, .ref v7), (9, .int v9)]) (st' := [.ref v7]) rfl ?_
    refine xZ.k_gI (me := xm186) hP_186 rfl (fun x1 => ?_)
    refine xZ.k_nA (me := xm186) hP_186 rfl rfl (by decide) (fun x2 M1 => ?_)
    refine xZ.adv (me := xm186) hP_186 3 (pc' := 303) (lv' := [(11, .int (0 : Int32)), (10, .ref x2), (0, .ref v0), (1, .ref v1), (4, .ref v4), (5, .int v5), (6, .int v6), (7, .ref v7), (9, .int v9)]) (st' := []) rfl ?_
    exact xZ.sub (xsc (.tail _ (.tail _ (.head _))) (xsc (.tail _ (.tail _ (.tail _ (.head _)))) (xsc (.tail _ (.tail _ (.tail _ (.tail _ (.head _))))) (xsc (.tail _ (.tail _ (.tail _ (.tail _ (.tail _ (.head _)))))) (xsc (.tail _ (.tail _ (.tail _ (.tail _ (.tail _ (.tail _ (.head _))))))) (xsc (.tail _ (.tail _ (.tail _ (.tail _ (.tail _ (.tail _ (.tail _ (.head _)))))))) (xsc (.tail _ (.tail _ (.tail _ (.tail _ (.tail _ (.tail _ (.tail _ (.tail _ (.head _))))))))) (xsc (.tail _ (.head _)) (xsc (.head _) xsn))))))))) (show ([11, 10, 0, 1, 4, 5, 6, 7, 9] : List Nat).Nodup from by decide) (k_f_Law_areLaid_303 O f d f v0 v1 v4 v5 v6 v7 v9 x2 (0 : Int32) M1)
  · skip
    refine xZ.adv (me := xm186) hP_186 1 (pc' := 290) (lv' := [(0, .ref v0), (1, .ref v1), (4, .ref v4), (5, .int v5), (6, .int v6), (7, .ref v7), (9, .int v9)]) (st' := [.int (0 : Int32)]) rfl ?_
    exact xZ.rete (me := xm186) hP_186 rfl rfl rfl
def f_Law_areLaid_275 (O : Nat → Option va_E) (f : Nat) (v0 : Nat) (v1 : Nat) (v4 : Nat) (v5 : Int32) (v6 : Int32) (v7 : Nat) (v8 : Int32) (v9 : Int32) (s0 : Int32) (M : xM) : Option (Int32 × xM) :=
  if (4 : Int32) < v8 then (
    f_Law_areLaid_286 O f v0 v1 v4 v5 v6 v7 v9 s0 (0 : Int32) M
  ) else
  f_Law_areLaid_286 O f v0 v1 v4 v5 v6 v7 v9 s0 (1 : Int32) M
set_option maxRecDepth 20000 in
theorem k_f_Law_areLaid_275 (O : Nat → Option va_E) (f d : Nat) (v0 : Nat) (v1 : Nat) (v4 : Nat) (v5 : Int32) (v6 : Int32) (v7 : Nat) (v8 : Int32) (v9 : Int32) (s0 : Int32) (M : xM) : xZ oI O (d + 9) 186 275 [(0, .ref v0), (1, .ref v1), (4, .ref v4), (5, .int v5), (6, .int v6), (7, .ref v7), (8, .int v8), (9, .int v9)] [.int s0] M (f_Law_areLaid_275 O f v0 v1 v4 v5 v6 v7 v8 v9 s0 M) := by
  unfold f_Law_areLaid_275
  refine xZ.adv (me := xm186) hP_186 2 (pc' := 278) (lv' := [(0, .ref v0), (1, .ref v1), (4, .ref v4), (5, .int v5), (6, .int v6), (7, .ref v7), (8, .int v8), (9, .int v9)]) (st' := [.int (4 : Int32), .int v8, .int s0]) rfl ?_
  refine xZ.ic_gt (me := xm186) hP_186 rfl (fun h1 => ?_) (fun h1 => ?_)
  · skip
    refine xZ.adv (me := xm186) hP_186 1 (pc' := 286) (lv' := [(0, .ref v0), (1, .ref v1), (4, .ref v4), (5, .int v5), (6, .int v6), (7, .ref v7), (8, .int v8), (9, .int v9)]) (st' := [.int (0 : Int32), .int s0]) rfl ?_
    exact xZ.sub (xsc (.head _) (xsc (.tail _ (.head _)) (xsc (.tail _ (.tail _ (.head _))) (xsc (.tail _ (.tail _ (.tail _ (.head _)))) (xsc (.tail _ (.tail _ (.tail _ (.tail _ (.head _))))) (xsc (.tail _ (.tail _ (.tail _ (.tail _ (.tail _ (.head _)))))) (xsc (.tail _ (.tail _ (.tail _ (.tail _ (.tail _ (.tail _ (.tail _ (.head _)))))))) xsn))))))) (show ([0, 1, 4, 5, 6, 7, 8, 9] : List Nat).Nodup from by decide) (k_f_Law_areLaid_286 O f d v0 v1 v4 v5 v6 v7 v9 s0 (0 : Int32) M)
  · skip
    refine xZ.adv (me := xm186) hP_186 2 (pc' := 286) (lv' := [(0, .ref v0), (1, .ref v1), (4, .ref v4), (5, .int v5), (6, .int v6), (7, .ref v7), (8, .int v8), (9, .int v9)]) (st' := [.int (1 : Int32), .int s0]) rfl ?_
    exact xZ.sub (xsc (.head _) (xsc (.tail _ (.head _)) (xsc (.tail _ (.tail _ (.head _))) (xsc (.tail _ (.tail _ (.tail _ (.head _)))) (xsc (.tail _ (.tail _ (.tail _ (.tail _ (.head _))))) (xsc (.tail _ (.tail _ (.tail _ (.tail _ (.tail _ (.head _)))))) (xsc (.tail _ (.tail _ (.tail _ (.tail _ (.tail _ (.tail _ (.tail _ (.head _)))))))) xsn))))))) (show ([0, 1, 4, 5, 6, 7, 8, 9] : List Nat).Nodup from by decide) (k_f_Law_areLaid_286 O f d v0 v1 v4 v5 v6 v7 v9 s0 (1 : Int32) M)
def f_Law_areLaid_218 (O : Nat → Option va_E) (f : Nat) (K147 : Nat → Nat → Nat → Int32 → Int32 → Nat → Int32 → Int32 → Int32 → Int32 → xM → Option (Int32 × xM)) (v0 : Nat) (v1 : Nat) (v4 : Nat) (v5 : Int32) (v6 : Int32) (v7 : Nat) (v8 : Int32) (v9 : Int32) (v11 : Int32) (s0 : Int32) (s1 : Int32) (M : xM) : Option (Int32 × xM) :=
  K147 v0 v1 v4 v5 v6 v7 v8 v9 (s0 + s1) (v11 + (1 : Int32)) M
set_option maxRecDepth 20000 in
theorem k_f_Law_areLaid_218 (O : Nat → Option va_E) (f d : Nat) (K147 : Nat → Nat → Nat → Int32 → Int32 → Nat → Int32 → Int32 → Int32 → Int32 → xM → Option (Int32 × xM)) (hK147 : ∀ (v0 : Nat) (v1 : Nat) (v4 : Nat) (v5 : Int32) (v6 : Int32) (v7 : Nat) (v8 : Int32) (v9 : Int32) (v10 : Int32) (v11 : Int32) M, xZ oI O (d + 9) 186 147 [(0, .ref v0), (1, .ref v1), (4, .ref v4), (5, .int v5), (6, .int v6), (7, .ref v7), (8, .int v8), (9, .int v9), (10, .int v10), (11, .int v11)] [] M (K147 v0 v1 v4 v5 v6 v7 v8 v9 v10 v11 M)) (v0 : Nat) (v1 : Nat) (v4 : Nat) (v5 : Int32) (v6 : Int32) (v7 : Nat) (v8 : Int32) (v9 : Int32) (v11 : Int32) (s0 : Int32) (s1 : Int32) (M : xM) : xZ oI O (d + 9) 186 218 [(0, .ref v0), (1, .ref v1), (4, .ref v4), (5, .int v5), (6, .int v6), (7, .ref v7), (8, .int v8), (9, .int v9), (11, .int v11)] [.int s1, .int s0] M (f_Law_areLaid_218 O f K147 v0 v1 v4 v5 v6 v7 v8 v9 v11 s0 s1 M) := by
  unfold f_Law_areLaid_218
  refine xZ.adv (me := xm186) hP_186 4 (pc' := 147) (lv' := [(11, .int (v11 + (1 : Int32))), (10, .int (s0 + s1)), (0, .ref v0), (1, .ref v1), (4, .ref v4), (5, .int v5), (6, .int v6), (7, .ref v7), (8, .int v8), (9, .int v9)]) (st' := []) rfl ?_
  exact xZ.sub (xsc (.tail _ (.tail _ (.head _))) (xsc (.tail _ (.tail _ (.tail _ (.head _)))) (xsc (.tail _ (.tail _ (.tail _ (.tail _ (.head _))))) (xsc (.tail _ (.tail _ (.tail _ (.tail _ (.tail _ (.head _)))))) (xsc (.tail _ (.tail _ (.tail _ (.tail _ (.tail _ (.tail _ (.head _))))))) (xsc (.tail _ (.tail _ (.tail _ (.tail _ (.tail _ (.tail _ (.tail _ (.head _)))))))) (xsc (.tail _ (.tail _ (.tail _ (.tail _ (.tail _ (.tail _ (.tail _ (.tail _ (.head _))))))))) (xsc (.tail _ (.tail _ (.tail _ (.tail _ (.tail _ (.tail _ (.tail _ (.tail _ (.tail _ (.head _)))))))))) (xsc (.tail _ (.head _)) (xsc (.head _) xsn)))))))))) (show ([11, 10, 0, 1, 4, 5, 6, 7, 8, 9] : List Nat).Nodup from by decide) (hK147 v0 v1 v4 v5 v6 v7 v8 v9 (s0 + s1) (v11 + (1 : Int32)) M)
def f_Law_areLaid_217 (O : Nat → Option va_E) (f : Nat) (K147 : Nat → Nat → Nat → Int32 → Int32 → Nat → Int32 → Int32 → Int32 → Int32 → xM → Option (Int32 × xM)) (v0 : Nat) (v1 : Nat) (v4 : Nat) (v5 : Int32) (v6 : Int32) (v7 : Nat) (v8 : Int32) (v9 : Int32) (v11 : Int32) (s0 : Int32) (M : xM) : Option (Int32 × xM) :=
  f_Law_areLaid_218 O f K147 v0 v1 v4 v5 v6 v7 v8 v9 v11 s0 (0 : Int32) M
set_option maxRecDepth 20000 in
theorem k_f_Law_areLaid_217 (O : Nat → Option va_E) (f d : Nat) (K147 : Nat → Nat → Nat → Int32 → Int32 → Nat → Int32 → Int32 → Int32 → Int32 → xM → Option (Int32 × xM)) (hK147 : ∀ (v0 : Nat) (v1 : Nat) (v4 : Nat) (v5 : Int32) (v6 : Int32) (v7 : Nat) (v8 : Int32) (v9 : Int32) (v10 : Int32) (v11 : Int32) M, xZ oI O (d + 9) 186 147 [(0, .ref v0), (1, .ref v1), (4, .ref v4), (5, .int v5), (6, .int v6), (7, .ref v7), (8, .int v8), (9, .int v9), (10, .int v10), (11, .int v11)] [] M (K147 v0 v1 v4 v5 v6 v7 v8 v9 v10 v11 M)) (v0 : Nat) (v1 : Nat) (v4 : Nat) (v5 : Int32) (v6 : Int32) (v7 : Nat) (v8 : Int32) (v9 : Int32) (v11 : Int32) (s0 : Int32) (M : xM) : xZ oI O (d + 9) 186 217 [(0, .ref v0), (1, .ref v1), (4, .ref v4), (5, .int v5), (6, .int v6), (7, .ref v7), (8, .int v8), (9, .int v9), (11, .int v11)] [.int s0] M (f_Law_areLaid_217 O f K147 v0 v1 v4 v5 v6 v7 v8 v9 v11 s0 M) := by
  unfold f_Law_areLaid_217
  refine xZ.adv (me := xm186) hP_186 1 (pc' := 218) (lv' := [(0, .ref v0), (1, .ref v1), (4, .ref v4), (5, .int v5), (6, .int v6), (7, .ref v7), (8, .int v8), (9, .int v9), (11, .int v11)]) (st' := [.int (0 : Int32), .int s0]) rfl ?_
  exact (k_f_Law_areLaid_218 O f d K147 hK147 v0 v1 v4 v5 v6 v7 v8 v9 v11 s0 (0 : Int32) M)
def f_Law_areLaid_147 (O : Nat → Option va_E) (f : Nat) (K131 : Nat → Nat → Nat → Int32 → Int32 → Nat → Int32 → Int32 → xM → Option (Int32 × xM)) : Nat → Nat → Nat → Nat → Int32 → Int32 → Nat → Int32 → Int32 → Int32 → Int32 → xM → Option (Int32 × xM)
  | 0, _, _, _, _, _, _, _, _, _, _, _ => none
  | n + 1, v0, v1, v4, v5, v6, v7, v8, v9, v10, v11, M =>
    (gI O M v7 13 4).bind fun x1 =>
    if x1 ≤ v11 then (
      xcl (f_Math_max O f v8 v10 M) fun x2 M1 =>
      K131 v0 v1 v4 v5 v6 v7 x2 (v9 + (1 : Int32)) M1
    ) else
    (gR O M v7 13 0).bind fun x3 =>
    (aI O M x3 v11).bind fun x4 =>
    (isO O M v0 12).bind fun _ =>
    xcl (f_Calendarhall_seriesAt O f v0 x4 (5 : Int32) M) fun x5 M2 =>
    if x5 = (1 : Int32) then (
      (gR O M2 v7 13 2).bind fun x6 =>
      (aI O M2 x6 v11).bind fun x7 =>
      (gR O M2 v7 13 2).bind fun x8 =>
      (aI O M2 x8 v9).bind fun x9 =>
      if x9 < x7 then (
        f_Law_areLaid_217 O f (f_Law_areLaid_147 O f K131 n) v0 v1 v4 v5 v6 v7 v8 v9 v11 v10 M2
      ) else
      (gR O M2 v7 13 2).bind fun x10 =>
      (aI O M2 x10 v9).bind fun x11 =>
      (isO O M2 v7 13).bind fun _ =>
      xcl (f_LDates_end O f v7 v11 M2) fun x12 M3 =>
      if x12 ≤ x11 then (
        f_Law_areLaid_217 O f (f_Law_areLaid_147 O f K131 n) v0 v1 v4 v5 v6 v7 v8 v9 v11 v10 M3
      ) else
      f_Law_areLaid_218 O f (f_Law_areLaid_147 O f K131 n) v0 v1 v4 v5 v6 v7 v8 v9 v11 v10 (1 : Int32) M3
    ) else
    f_Law_areLaid_217 O f (f_Law_areLaid_147 O f K131 n) v0 v1 v4 v5 v6 v7 v8 v9 v11 v10 M2
set_option maxRecDepth 20000 in
theorem k_f_Law_areLaid_147 (O : Nat → Option va_E) (f d : Nat) (K131 : Nat → Nat → Nat → Int32 → Int32 → Nat → Int32 → Int32 → xM → Option (Int32 × xM)) (hK131 : ∀ (v0 : Nat) (v1 : Nat) (v4 : Nat) (v5 : Int32) (v6 : Int32) (v7 : Nat) (v8 : Int32) (v9 : Int32) M, xZ oI O (d + 9) 186 131 [(0, .ref v0), (1, .ref v1), (4, .ref v4), (5, .int v5), (6, .int v6), (7, .ref v7), (8, .int v8), (9, .int v9)] [] M (K131 v0 v1 v4 v5 v6 v7 v8 v9 M)) : ∀ (n : Nat) (v0 : Nat) (v1 : Nat) (v4 : Nat) (v5 : Int32) (v6 : Int32) (v7 : Nat) (v8 : Int32) (v9 : Int32) (v10 : Int32) (v11 : Int32) (M : xM), xZ oI O (d + 9) 186 147 [(0, .ref v0), (1, .ref v1), (4, .ref v4), (5, .int v5), (6, .int v6), (7, .ref v7), (8, .int v8), (9, .int v9), (10, .int v10), (11, .int v11)] [] M (f_Law_areLaid_147 O f K131 n v0 v1 v4 v5 v6 v7 v8 v9 v10 v11 M) := by
  intro n
  induction n with
  | zero =>
    intro v0 v1 v4 v5 v6 v7 v8 v9 v10 v11 M
    exact xZ.no
  | succ n ih =>
    intro v0 v1 v4 v5 v6 v7 v8 v9 v10 v11 M
    unfold f_Law_areLaid_147
    refine xZ.adv (me := xm186) hP_186 2 (pc' := 151) (lv' := [(0, .ref v0), (1, .ref v1), (4, .ref v4), (5, .int v5), (6, .int v6), (7, .ref v7), (8, .int v8), (9, .int v9), (10, .int v10), (11, .int v11)]) (st' := [.ref v7, .int v11]) rfl ?_
    refine xZ.k_gI (me := xm186) hP_186 rfl (fun x1 => ?_)
    refine xZ.ic_ge (me := xm186) hP_186 rfl (fun h1 => ?_) (fun h1 => ?_)
    · skip
      refine xZ.adv (me := xm186) hP_186 2 (pc' := 231) (lv' := [(0, .ref v0), (1, .ref v1), (4, .ref v4), (5, .int v5), (6, .int v6), (7, .ref v7), (8, .int v8), (9, .int v9), (10, .int v10), (11, .int v11)]) (st' := [.int v10, .int v8]) rfl ?_
      refine xZ.calls (κ := oI) (av := [.int v8, .int v10]) (rest := []) (st' := fun x2 => [.int x2]) (me := xm186) hP_186 rfl rfl rfl (Nat.le_of_ble_eq_true rfl) (by decide) hP_247 (Nat.le_of_ble_eq_true rfl) (fun _ => rfl) (k_f_Math_max O f (d + 8) v8 v10 M) (fun x2 M1 => ?_)
      refine xZ.adv (me := xm186) hP_186 3 (pc' := 131) (lv' := [(9, .int (v9 + (1 : Int32))), (8, .int x2), (0, .ref v0), (1, .ref v1), (4, .ref v4), (5, .int v5), (6, .int v6), (7, .ref v7), (10, .int v10), (11, .int v11)]) (st' := []) rfl ?_
      exact xZ.sub (xsc (.tail _ (.tail _ (.head _))) (xsc (.tail _ (.tail _ (.tail _ (.head _)))) (xsc (.tail _ (.tail _ (.tail _ (.tail _ (.head _))))) (xsc (.tail _ (.tail _ (.tail _ (.tail _ (.tail _ (.head _)))))) (xsc (.tail _ (.tail _ (.tail _ (.tail _ (.tail _ (.tail _ (.head _))))))) (xsc (.tail _ (.tail _ (.tail _ (.tail _ (.tail _ (.tail _ (.tail _ (.head _)))))))) (xsc (.tail _ (.head _)) (xsc (.head _) xsn)))))))) (show ([9, 8, 0, 1, 4, 5, 6, 7, 10, 11] : List Nat).Nodup from by decide) (hK131 v0 v1 v4 v5 v6 v7 x2 (v9 + (1 : Int32)) M1)
    · skip
      refine xZ.adv (me := xm186) hP_186 3 (pc' := 162) (lv' := [(0, .ref v0), (1, .ref v1), (4, .ref v4), (5, .int v5), (6, .int v6), (7, .ref v7), (8, .int v8), (9, .int v9), (10, .int v10), (11, .int v11)]) (st' := [.ref v7, .ref v0, .int v10]) rfl ?_
      refine xZ.k_gR (me := xm186) hP_186 rfl (fun x3 => ?_)
      refine xZ.adv (me := xm186) hP_186 1 (pc' := 167) (lv' := [(0, .ref v0), (1, .ref v1), (4, .ref v4), (5, .int v5), (6, .int v6), (7, .ref v7), (8, .int v8), (9, .int v9), (10, .int v10), (11, .int v11)]) (st' := [.int v11, .ref x3, .ref v0, .int v10]) rfl ?_
      refine xZ.k_aI (me := xm186) hP_186 rfl (fun x4 => ?_)
      refine xZ.adv (me := xm186) hP_186 1 (pc' := 169) (lv' := [(0, .ref v0), (1, .ref v1), (4, .ref v4), (5, .int v5), (6, .int v6), (7, .ref v7), (8, .int v8), (9, .int v9), (10, .int v10), (11, .int v11)]) (st' := [.int (5 : Int32), .int x4, .ref v0, .int v10]) rfl ?_
      refine xZ.callv (κ := oI) (av := [.int x4, .int (5 : Int32)]) (rest := [.int v10]) (st' := fun x5 => [.int x5, .int v10]) (k0 := v0) (me := xm186) hP_186 rfl (Or.inl rfl) ⟨rfl, by decide⟩ rfl rfl (Nat.le_of_ble_eq_true rfl) (by decide) hP_126 (Nat.le_of_ble_eq_true rfl) (fun _ => rfl) (k_f_Calendarhall_seriesAt O f (d + 6) v0 x4 (5 : Int32) M) (fun x5 M2 => ?_)
      refine xZ.adv (me := xm186) hP_186 1 (pc' := 173) (lv' := [(0, .ref v0), (1, .ref v1), (4, .ref v4), (5, .int v5), (6, .int v6), (7, .ref v7), (8, .int v8), (9, .int v9), (10, .int v10), (11, .int v11)]) (st' := [.int (1 : Int32), .int x5, .int v10]) rfl ?_
      refine xZ.ic_ne (me := xm186) hP_186 rfl (fun h2 => ?_) (fun h2 => ?_)
      · skip
        refine xZ.adv (me := xm186) hP_186 1 (pc' := 178) (lv' := [(0, .ref v0), (1, .ref v1), (4, .ref v4), (5, .int v5), (6, .int v6), (7, .ref v7), (8, .int v8), (9, .int v9), (10, .int v10), (11, .int v11)]) (st' := [.ref v7, .int v10]) rfl ?_
        refine xZ.k_gR (me := xm186) hP_186 rfl (fun x6 => ?_)
        refine xZ.adv (me := xm186) hP_186 1 (pc' := 183) (lv' := [(0, .ref v0), (1, .ref v1), (4, .ref v4), (5, .int v5), (6, .int v6), (7, .ref v7), (8, .int v8), (9, .int v9), (10, .int v10), (11, .int v11)]) (st' := [.int v11, .ref x6, .int v10]) rfl ?_
        refine xZ.k_aI (me := xm186) hP_186 rfl (fun x7 => ?_)
        refine xZ.adv (me := xm186) hP_186 1 (pc' := 186) (lv' := [(0, .ref v0), (1, .ref v1), (4, .ref v4), (5, .int v5), (6, .int v6), (7, .ref v7), (8, .int v8), (9, .int v9), (10, .int v10), (11, .int v11)]) (st' := [.ref v7, .int x7, .int v10]) rfl ?_
        refine xZ.k_gR (me := xm186) hP_186 rfl (fun x8 => ?_)
        refine xZ.adv (me := xm186) hP_186 1 (pc' := 191) (lv' := [(0, .ref v0), (1, .ref v1), (4, .ref v4), (5, .int v5), (6, .int v6), (7, .ref v7), (8, .int v8), (9, .int v9), (10, .int v10), (11, .int v11)]) (st' := [.int v9, .ref x8, .int x7, .int v10]) rfl ?_
        refine xZ.k_aI (me := xm186) hP_186 rfl (fun x9 => ?_)
        refine xZ.ic_gt (me := xm186) hP_186 rfl (fun h3 => ?_) (fun h3 => ?_)
        · skip
          exact xZ.sub (xsc (.head _) (xsc (.tail _ (.head _)) (xsc (.tail _ (.tail _ (.head _))) (xsc (.tail _ (.tail _ (.tail _ (.head _)))) (xsc (.tail _ (.tail _ (.tail _ (.tail _ (.head _))))) (xsc (.tail _ (.tail _ (.tail _ (.tail _ (.tail _ (.head _)))))) (xsc (.tail _ (.tail _ (.tail _ (.tail _ (.tail _ (.tail _ (.head _))))))) (xsc (.tail _ (.tail _ (.tail _ (.tail _ (.tail _ (.tail _ (.tail _ (.head _)))))))) (xsc (.tail _ (.tail _ (.tail _ (.tail _ (.tail _ (.tail _ (.tail _ (.tail _ (.tail _ (.head _)))))))))) xsn))))))))) (show ([0, 1, 4, 5, 6, 7, 8, 9, 10, 11] : List Nat).Nodup from by decide) (k_f_Law_areLaid_217 O f d (f_Law_areLaid_147 O f K131 n) ih v0 v1 v4 v5 v6 v7 v8 v9 v11 v10 M2)
        · skip
          refine xZ.adv (me := xm186) hP_186 1 (pc' := 197) (lv' := [(0, .ref v0), (1, .ref v1), (4, .ref v4), (5, .int v5), (6, .int v6), (7, .ref v7), (8, .int v8), (9, .int v9), (10, .int v10), (11, .int v11)]) (st' := [.ref v7, .int v10]) rfl ?_
          refine xZ.k_gR (me := xm186) hP_186 rfl (fun x10 => ?_)
          refine xZ.adv (me := xm186) hP_186 1 (pc' := 202) (lv' := [(0, .ref v0), (1, .ref v1), (4, .ref v4), (5, .int v5), (6, .int v6), (7, .ref v7), (8, .int v8), (9, .int v9), (10, .int v10), (11, .int v11)]) (st' := [.int v9, .ref x10, .int v10]) rfl ?_
          refine xZ.k_aI (me := xm186) hP_186 rfl (fun x11 => ?_)
          refine xZ.adv (me := xm186) hP_186 2 (pc' := 207) (lv' := [(0, .ref v0), (1, .ref v1), (4, .ref v4), (5, .int v5), (6, .int v6), (7, .ref v7), (8, .int v8), (9, .int v9), (10, .int v10), (11, .int v11)]) (st' := [.int v11, .ref v7, .int x11, .int v10]) rfl ?_
          refine xZ.callv (κ := oI) (av := [.int v11]) (rest := [.int x11, .int v10]) (st' := fun x12 => [.int x12, .int x11, .int v10]) (k0 := v7) (me := xm186) hP_186 rfl (Or.inl rfl) ⟨rfl, by decide⟩ rfl rfl (Nat.le_of_ble_eq_true rfl) (by decide) hP_154 (Nat.le_of_ble_eq_true rfl) (fun _ => rfl) (k_f_LDates_end O f (d + 8) v7 v11 M2) (fun x12 M3 => ?_)
          refine xZ.ic_ge (me := xm186) hP_186 rfl (fun h4 => ?_) (fun h4 => ?_)
          · skip
            exact xZ.sub (xsc (.head _) (xsc (.tail _ (.head _)) (xsc (.tail _ (.tail _ (.head _))) (xsc (.tail _ (.tail _ (.tail _ (.head _)))) (xsc (.tail _ (.tail _ (.tail _ (.tail _ (.head _))))) (xsc (.tail _ (.tail _ (.tail _ (.tail _ (.tail _ (.head _)))))) (xsc (.tail _ (.tail _ (.tail _ (.tail _ (.tail _ (.tail _ (.head _))))))) (xsc (.tail _ (.tail _ (.tail _ (.tail _ (.tail _ (.tail _ (.tail _ (.head _)))))))) (xsc (.tail _ (.tail _ (.tail _ (.tail _ (.tail _ (.tail _ (.tail _ (.tail _ (.tail _ (.head _)))))))))) xsn))))))))) (show ([0, 1, 4, 5, 6, 7, 8, 9, 10, 11] : List Nat).Nodup from by decide) (k_f_Law_areLaid_217 O f d (f_Law_areLaid_147 O f K131 n) ih v0 v1 v4 v5 v6 v7 v8 v9 v11 v10 M3)
          · skip
            refine xZ.adv (me := xm186) hP_186 2 (pc' := 218) (lv' := [(0, .ref v0), (1, .ref v1), (4, .ref v4), (5, .int v5), (6, .int v6), (7, .ref v7), (8, .int v8), (9, .int v9), (10, .int v10), (11, .int v11)]) (st' := [.int (1 : Int32), .int v10]) rfl ?_
            exact xZ.sub (xsc (.head _) (xsc (.tail _ (.head _)) (xsc (.tail _ (.tail _ (.head _))) (xsc (.tail _ (.tail _ (.tail _ (.head _)))) (xsc (.tail _ (.tail _ (.tail _ (.tail _ (.head _))))) (xsc (.tail _ (.tail _ (.tail _ (.tail _ (.tail _ (.head _)))))) (xsc (.tail _ (.tail _ (.tail _ (.tail _ (.tail _ (.tail _ (.head _))))))) (xsc (.tail _ (.tail _ (.tail _ (.tail _ (.tail _ (.tail _ (.tail _ (.head _)))))))) (xsc (.tail _ (.tail _ (.tail _ (.tail _ (.tail _ (.tail _ (.tail _ (.tail _ (.tail _ (.head _)))))))))) xsn))))))))) (show ([0, 1, 4, 5, 6, 7, 8, 9, 10, 11] : List Nat).Nodup from by decide) (k_f_Law_areLaid_218 O f d (f_Law_areLaid_147 O f K131 n) ih v0 v1 v4 v5 v6 v7 v8 v9 v11 v10 (1 : Int32) M3)
      · skip
        exact xZ.sub (xsc (.head _) (xsc (.tail _ (.head _)) (xsc (.tail _ (.tail _ (.head _))) (xsc (.tail _ (.tail _ (.tail _ (.head _)))) (xsc (.tail _ (.tail _ (.tail _ (.tail _ (.head _))))) (xsc (.tail _ (.tail _ (.tail _ (.tail _ (.tail _ (.head _)))))) (xsc (.tail _ (.tail _ (.tail _ (.tail _ (.tail _ (.tail _ (.head _))))))) (xsc (.tail _ (.tail _ (.tail _ (.tail _ (.tail _ (.tail _ (.tail _ (.head _)))))))) (xsc (.tail _ (.tail _ (.tail _ (.tail _ (.tail _ (.tail _ (.tail _ (.tail _ (.tail _ (.head _)))))))))) xsn))))))))) (show ([0, 1, 4, 5, 6, 7, 8, 9, 10, 11] : List Nat).Nodup from by decide) (k_f_Law_areLaid_217 O f d (f_Law_areLaid_147 O f K131 n) ih v0 v1 v4 v5 v6 v7 v8 v9 v11 v10 M2)
def f_Law_areLaid_131 (O : Nat → Option va_E) (f : Nat) : Nat → Nat → Nat → Nat → Int32 → Int32 → Nat → Int32 → Int32 → xM → Option (Int32 × xM)
  | 0, _, _, _, _, _, _, _, _, _ => none
  | n + 1, v0, v1, v4, v5, v6, v7, v8, v9, M =>
    (gI O M v7 13 4).bind fun x1 =>
    if x1 ≤ v9 then (
      (isO O M v0 12).bind fun _ =>
      xcl (f_Calendarhall_layRooms O f v0 v5 v6 M) fun x2 M1 =>
      (isO O M1 v0 12).bind fun _ =>
      xcl (f_Calendarhall_roomsNeeded O f v0 v5 v6 M1) fun x3 M2 =>
      if x3 = v8 then (
        if x2 = 0 then (
          f_Law_areLaid_275 O f v0 v1 v4 v5 v6 v7 v8 x2 (1 : Int32) M2
        ) else
        f_Law_areLaid_275 O f v0 v1 v4 v5 v6 v7 v8 x2 (0 : Int32) M2
      ) else
      some ((0 : Int32), M2)
    ) else
    f_Law_areLaid_147 O f (f_Law_areLaid_131 O f n) f v0 v1 v4 v5 v6 v7 v8 v9 (0 : Int32) (0 : Int32) M
set_option maxRecDepth 20000 in
theorem k_f_Law_areLaid_131 (O : Nat → Option va_E) (f d : Nat) : ∀ (n : Nat) (v0 : Nat) (v1 : Nat) (v4 : Nat) (v5 : Int32) (v6 : Int32) (v7 : Nat) (v8 : Int32) (v9 : Int32) (M : xM), xZ oI O (d + 9) 186 131 [(0, .ref v0), (1, .ref v1), (4, .ref v4), (5, .int v5), (6, .int v6), (7, .ref v7), (8, .int v8), (9, .int v9)] [] M (f_Law_areLaid_131 O f n v0 v1 v4 v5 v6 v7 v8 v9 M) := by
  intro n
  induction n with
  | zero =>
    intro v0 v1 v4 v5 v6 v7 v8 v9 M
    exact xZ.no
  | succ n ih =>
    intro v0 v1 v4 v5 v6 v7 v8 v9 M
    unfold f_Law_areLaid_131
    refine xZ.adv (me := xm186) hP_186 2 (pc' := 135) (lv' := [(0, .ref v0), (1, .ref v1), (4, .ref v4), (5, .int v5), (6, .int v6), (7, .ref v7), (8, .int v8), (9, .int v9)]) (st' := [.ref v7, .int v9]) rfl ?_
    refine xZ.k_gI (me := xm186) hP_186 rfl (fun x1 => ?_)
    refine xZ.ic_ge (me := xm186) hP_186 rfl (fun h1 => ?_) (fun h1 => ?_)
    · skip
      refine xZ.adv (me := xm186) hP_186 3 (pc' := 247) (lv' := [(0, .ref v0), (1, .ref v1), (4, .ref v4), (5, .int v5), (6, .int v6), (7, .ref v7), (8, .int v8), (9, .int v9)]) (st' := [.int v6, .int v5, .ref v0]) rfl ?_
      refine xZ.callv (κ := oI) (av := [.int v5, .int v6]) (rest := []) (st' := fun x2 => [.int x2]) (k0 := v0) (me := xm186) hP_186 rfl (Or.inl rfl) ⟨rfl, by decide⟩ rfl rfl (Nat.le_of_ble_eq_true rfl) (by decide) hP_188 (Nat.le_of_ble_eq_true rfl) (fun _ => rfl) (k_f_Calendarhall_layRooms O f (d + 1) v0 v5 v6 M) (fun x2 M1 => ?_)
      refine xZ.adv (me := xm186) hP_186 4 (pc' := 257) (lv' := [(9, .int x2), (0, .ref v0), (1, .ref v1), (4, .ref v4), (5, .int v5), (6, .int v6), (7, .ref v7), (8, .int v8)]) (st' := [.int v6, .int v5, .ref v0]) rfl ?_
      refine xZ.callv (κ := oI) (av := [.int v5, .int v6]) (rest := []) (st' := fun x3 => [.int x3]) (k0 := v0) (me := xm186) hP_186 rfl (Or.inl rfl) ⟨rfl, by decide⟩ rfl rfl (Nat.le_of_ble_eq_true rfl) (by decide) hP_193 (Nat.le_of_ble_eq_true rfl) (fun _ => rfl) (k_f_Calendarhall_roomsNeeded O f (d + 1) v0 v5 v6 M1) (fun x3 M2 => ?_)
      refine xZ.adv (me := xm186) hP_186 1 (pc' := 262) (lv' := [(9, .int x2), (0, .ref v0), (1, .ref v1), (4, .ref v4), (5, .int v5), (6, .int v6), (7, .ref v7), (8, .int v8)]) (st' := [.int v8, .int x3]) rfl ?_
      refine xZ.ic_ne (me := xm186) hP_186 rfl (fun h2 => ?_) (fun h2 => ?_)
      · skip
        refine xZ.adv (me := xm186) hP_186 1 (pc' := 267) (lv' := [(9, .int x2), (0, .ref v0), (1, .ref v1), (4, .ref v4), (5, .int v5), (6, .int v6), (7, .ref v7), (8, .int v8)]) (st' := [.int x2]) rfl ?_
        refine xZ.if_ne (me := xm186) hP_186 rfl (fun h3 => ?_) (fun h3 => ?_)
        · skip
          refine xZ.adv (me := xm186) hP_186 2 (pc' := 275) (lv' := [(9, .int x2), (0, .ref v0), (1, .ref v1), (4, .ref v4), (5, .int v5), (6, .int v6), (7, .ref v7), (8, .int v8)]) (st' := [.int (1 : Int32)]) rfl ?_
          exact xZ.sub (xsc (.tail _ (.head _)) (xsc (.tail _ (.tail _ (.head _))) (xsc (.tail _ (.tail _ (.tail _ (.head _)))) (xsc (.tail _ (.tail _ (.tail _ (.tail _ (.head _))))) (xsc (.tail _ (.tail _ (.tail _ (.tail _ (.tail _ (.head _)))))) (xsc (.tail _ (.tail _ (.tail _ (.tail _ (.tail _ (.tail _ (.head _))))))) (xsc (.tail _ (.tail _ (.tail _ (.tail _ (.tail _ (.tail _ (.tail _ (.head _)))))))) (xsc (.head _) xsn)))))))) (show ([9, 0, 1, 4, 5, 6, 7, 8] : List Nat).Nodup from by decide) (k_f_Law_areLaid_275 O f d v0 v1 v4 v5 v6 v7 v8 x2 (1 : Int32) M2)
        · skip
          refine xZ.adv (me := xm186) hP_186 1 (pc' := 275) (lv' := [(9, .int x2), (0, .ref v0), (1, .ref v1), (4, .ref v4), (5, .int v5), (6, .int v6), (7, .ref v7), (8, .int v8)]) (st' := [.int (0 : Int32)]) rfl ?_
          exact xZ.sub (xsc (.tail _ (.head _)) (xsc (.tail _ (.tail _ (.head _))) (xsc (.tail _ (.tail _ (.tail _ (.head _)))) (xsc (.tail _ (.tail _ (.tail _ (.tail _ (.head _))))) (xsc (.tail _ (.tail _ (.tail _ (.tail _ (.tail _ (.head _)))))) (xsc (.tail _ (.tail _ (.tail _ (.tail _ (.tail _ (.tail _ (.head _))))))) (xsc (.tail _ (.tail _ (.tail _ (.tail _ (.tail _ (.tail _ (.tail _ (.head _)))))))) (xsc (.head _) xsn)))))))) (show ([9, 0, 1, 4, 5, 6, 7, 8] : List Nat).Nodup from by decide) (k_f_Law_areLaid_275 O f d v0 v1 v4 v5 v6 v7 v8 x2 (0 : Int32) M2)
      · skip
        refine xZ.adv (me := xm186) hP_186 1 (pc' := 290) (lv' := [(9, .int x2), (0, .ref v0), (1, .ref v1), (4, .ref v4), (5, .int v5), (6, .int v6), (7, .ref v7), (8, .int v8)]) (st' := [.int (0 : Int32)]) rfl ?_
        exact xZ.rete (me := xm186) hP_186 rfl rfl rfl
    · skip
      refine xZ.adv (me := xm186) hP_186 4 (pc' := 147) (lv' := [(11, .int (0 : Int32)), (10, .int (0 : Int32)), (0, .ref v0), (1, .ref v1), (4, .ref v4), (5, .int v5), (6, .int v6), (7, .ref v7), (8, .int v8), (9, .int v9)]) (st' := []) rfl ?_
      exact xZ.sub (xsc (.tail _ (.tail _ (.head _))) (xsc (.tail _ (.tail _ (.tail _ (.head _)))) (xsc (.tail _ (.tail _ (.tail _ (.tail _ (.head _))))) (xsc (.tail _ (.tail _ (.tail _ (.tail _ (.tail _ (.head _)))))) (xsc (.tail _ (.tail _ (.tail _ (.tail _ (.tail _ (.tail _ (.head _))))))) (xsc (.tail _ (.tail _ (.tail _ (.tail _ (.tail _ (.tail _ (.tail _ (.head _)))))))) (xsc (.tail _ (.tail _ (.tail _ (.tail _ (.tail _ (.tail _ (.tail _ (.tail _ (.head _))))))))) (xsc (.tail _ (.tail _ (.tail _ (.tail _ (.tail _ (.tail _ (.tail _ (.tail _ (.tail _ (.head _)))))))))) (xsc (.tail _ (.head _)) (xsc (.head _) xsn)))))))))) (show ([11, 10, 0, 1, 4, 5, 6, 7, 8, 9] : List Nat).Nodup from by decide) (k_f_Law_areLaid_147 O f d (f_Law_areLaid_131 O f n) ih f v0 v1 v4 v5 v6 v7 v8 v9 (0 : Int32) (0 : Int32) M)
def f_Law_areLaid_65 (O : Nat → Option va_E) (f : Nat) : Nat → Nat → Nat → Int32 → Int32 → Nat → Int32 → xM → Option (Int32 × xM)
  | 0, _, _, _, _, _, _, _ => none
  | n + 1, v0, v1, v2, v3, v4, v5, M =>
    if (4 : Int32) ≤ v5 then (
      (isO O M v1 15).bind fun _ =>
      xcl (f_LDraw_n O f v1 (10080 : Int32) M) fun x1 M1 =>
      xlet ((((1440 : Int32) * v2) + (1 : Int32)) + x1) fun x2 =>
      xcl (nO M1 13) fun x3 M2 =>
      xcl (f_LDates_ctor O f x3 v0 v3 ((1440 : Int32) * v2) x2 M2) fun _ M3 =>
      f_Law_areLaid_131 O f f v0 v1 v4 ((1440 : Int32) * v2) x2 x3 (0 : Int32) (0 : Int32) M3
    ) else
    (aI O M v4 v5).bind fun x5 =>
    (isO O M v0 12).bind fun _ =>
    xcl (f_Calendarhall_setRoom O f v0 v5 x5 M) fun x6 M4 =>
    f_Law_areLaid_65 O f n v0 v1 v2 v3 v4 (v5 + (1 : Int32)) M4
set_option maxRecDepth 20000 in
theorem k_f_Law_areLaid_65 (O : Nat → Option va_E) (f d : Nat) : ∀ (n : Nat) (v0 : Nat) (v1 : Nat) (v2 : Int32) (v3 : Int32) (v4 : Nat) (v5 : Int32) (M : xM), xZ oI O (d + 9) 186 65 [(0, .ref v0), (1, .ref v1), (2, .int v2), (3, .int v3), (4, .ref v4), (5, .int v5)] [] M (f_Law_areLaid_65 O f n v0 v1 v2 v3 v4 v5 M) := by
  intro n
  induction n with
  | zero =>
    intro v0 v1 v2 v3 v4 v5 M
    exact xZ.no
  | succ n ih =>
    intro v0 v1 v2 v3 v4 v5 M
    unfold f_Law_areLaid_65
    refine xZ.adv (me := xm186) hP_186 2 (pc' := 68) (lv' := [(0, .ref v0), (1, .ref v1), (2, .int v2), (3, .int v3), (4, .ref v4), (5, .int v5)]) (st' := [.int (4 : Int32), .int v5]) rfl ?_
    refine xZ.ic_ge (me := xm186) hP_186 rfl (fun h1 => ?_) (fun h1 => ?_)
    · skip
      refine xZ.adv (me := xm186) hP_186 9 (pc' := 104) (lv' := [(5, .int ((1440 : Int32) * v2)), (0, .ref v0), (1, .ref v1), (2, .int v2), (3, .int v3), (4, .ref v4)]) (st' := [.int (10080 : Int32), .ref v1, .int (((1440 : Int32) * v2) + (1 : Int32))]) rfl ?_
      refine xZ.callv (κ := oI) (av := [.int (10080 : Int32)]) (rest := [.int (((1440 : Int32) * v2) + (1 : Int32))]) (st' := fun x1 => [.int x1, .int (((1440 : Int32) * v2) + (1 : Int32))]) (k0 := v1) (me := xm186) hP_186 rfl (Or.inl rfl) ⟨rfl, by decide⟩ rfl rfl (Nat.le_of_ble_eq_true rfl) (by decide) hP_12 (Nat.le_of_ble_eq_true rfl) (fun _ => rfl) (k_f_LDraw_n O f (d + 8) v1 (10080 : Int32) M) (fun x1 M1 => ?_)
      refine xZ.adv (me := xm186) hP_186 2 (pc' := 110) (lv' := [(6, .int ((((1440 : Int32) * v2) + (1 : Int32)) + x1)), (5, .int ((1440 : Int32) * v2)), (0, .ref v0), (1, .ref v1), (2, .int v2), (3, .int v3), (4, .ref v4)]) (st' := []) rfl ?_
      refine xZ.letI (v := ((((1440 : Int32) * v2) + (1 : Int32)) + x1)) (lvf := fun x2 => [(6, .int x2), (5, .int ((1440 : Int32) * v2)), (0, .ref v0), (1, .ref v1), (2, .int v2), (3, .int v3), (4, .ref v4)]) (stf := fun x2 => []) ?_
      intro x2
      refine xZ.k_nO (me := xm186) hP_186 rfl rfl (fun x3 M2 => ?_)
      refine xZ.adv (me := xm186) hP_186 5 (pc' := 120) (lv' := [(6, .int x2), (5, .int ((1440 : Int32) * v2)), (0, .ref v0), (1, .ref v1), (2, .int v2), (3, .int v3), (4, .ref v4)]) (st' := [.int x2, .int ((1440 : Int32) * v2), .int v3, .ref v0, .ref x3, .ref x3]) rfl ?_
      refine xZ.calli (κ := oU) (av := [.ref v0, .int v3, .int ((1440 : Int32) * v2), .int x2]) (rest := [.ref x3]) (st' := fun _ => [.ref x3]) (k0 := x3) (me := xm186) hP_186 rfl (Or.inl rfl) rfl rfl (Nat.le_of_ble_eq_true rfl) (by decide) hP_152 (Nat.le_of_ble_eq_true rfl) (fun _ => rfl) (k_f_LDates_ctor O f (d + 2) x3 v0 v3 ((1440 : Int32) * v2) x2 M2) (fun _ M3 => ?_)
      refine xZ.adv (me := xm186) hP_186 5 (pc' := 131) (lv' := [(9, .int (0 : Int32)), (8, .int (0 : Int32)), (7, .ref x3), (6, .int x2), (5, .int ((1440 : Int32) * v2)), (0, .ref v0), (1, .ref v1), (2, .int v2), (3, .int v3), (4, .ref v4)]) (st' := []) rfl ?_
      exact xZ.sub (xsc (.tail _ (.tail _ (.tail _ (.tail _ (.tail _ (.head _)))))) (xsc (.tail _ (.tail _ (.tail _ (.tail _ (.tail _ (.tail _ (.head _))))))) (xsc (.tail _ (.tail _ (.tail _ (.tail _ (.tail _ (.tail _ (.tail _ (.tail _ (.tail _ (.head _)))))))))) (xsc (.tail _ (.tail _ (.tail _ (.tail _ (.head _))))) (xsc (.tail _ (.tail _ (.tail _ (.head _)))) (xsc (.tail _ (.tail _ (.head _))) (xsc (.tail _ (.head _)) (xsc (.head _) xsn)))))))) (show ([9, 8, 7, 6, 5, 0, 1, 2, 3, 4] : List Nat).Nodup from by decide) (k_f_Law_areLaid_131 O f d f v0 v1 v4 ((1440 : Int32) * v2) x2 x3 (0 : Int32) (0 : Int32) M3)
    · skip
      refine xZ.adv (me := xm186) hP_186 4 (pc' := 78) (lv' := [(0, .ref v0), (1, .ref v1), (2, .int v2), (3, .int v3), (4, .ref v4), (5, .int v5)]) (st' := [.int v5, .ref v4, .int v5, .ref v0]) rfl ?_
      refine xZ.k_aI (me := xm186) hP_186 rfl (fun x5 => ?_)
      refine xZ.callv (κ := oI) (av := [.int v5, .int x5]) (rest := []) (st' := fun x6 => [.int x6]) (k0 := v0) (me := xm186) hP_186 rfl (Or.inl rfl) ⟨rfl, by decide⟩ rfl rfl (Nat.le_of_ble_eq_true rfl) (by decide) hP_187 (Nat.le_of_ble_eq_true rfl) (fun _ => rfl) (k_f_Calendarhall_setRoom O f (d + 3) v0 v5 x5 M) (fun x6 M4 => ?_)
      refine xZ.adv (me := xm186) hP_186 3 (pc' := 65) (lv' := [(5, .int (v5 + (1 : Int32))), (0, .ref v0), (1, .ref v1), (2, .int v2), (3, .int v3), (4, .ref v4)]) (st' := []) rfl ?_
      exact xZ.sub (xsc (.tail _ (.head _)) (xsc (.tail _ (.tail _ (.head _))) (xsc (.tail _ (.tail _ (.tail _ (.head _)))) (xsc (.tail _ (.tail _ (.tail _ (.tail _ (.head _))))) (xsc (.tail _ (.tail _ (.tail _ (.tail _ (.tail _ (.head _)))))) (xsc (.head _) xsn)))))) (show ([5, 0, 1, 2, 3, 4] : List Nat).Nodup from by decide) (ih v0 v1 v2 v3 v4 (v5 + (1 : Int32)) M4)
def f_Law_areLaid (O : Nat → Option va_E) (f : Nat) (v0 : Nat) (v1 : Nat) (M : xM) : Option (Int32 × xM) :=
  (isO O M v1 15).bind fun _ =>
  xcl (f_LDraw_n O f v1 (400 : Int32) M) fun x1 M1 =>
  (isO O M1 v1 15).bind fun _ =>
  xcl (f_LDraw_n O f v1 (12 : Int32) M1) fun x2 M2 =>
  xcl (f_Law_series O f v0 v1 ((1 : Int32) + x2) (3 : Int32) ((100 : Int32) + x1) M2) fun x3 M3 =>
  xcl (nA M3 0 (4 : Int32)) fun x4 M4 =>
  (isO O M4 v1 15).bind fun _ =>
  xcl (f_LDraw_n O f v1 (10 : Int32) M4) fun x5 M5 =>
  (wI M5 x4 (0 : Int32) x5).bind fun M6 =>
  (isO O M6 v1 15).bind fun _ =>
  xcl (f_LDraw_n O f v1 (10 : Int32) M6) fun x6 M7 =>
  (wI M7 x4 (1 : Int32) x6).bind fun M8 =>
  (isO O M8 v1 15).bind fun _ =>
  xcl (f_LDraw_n O f v1 (3 : Int32) M8) fun x7 M9 =>
  (wI M9 x4 (2 : Int32) x7).bind fun M10 =>
  (wI M10 x4 (3 : Int32) (3 : Int32)).bind fun M11 =>
  f_Law_areLaid_65 O f f v0 v1 ((100 : Int32) + x1) x3 x4 (0 : Int32) M11
set_option maxRecDepth 20000 in
theorem k_f_Law_areLaid (O : Nat → Option va_E) (f d : Nat) (v0 : Nat) (v1 : Nat) (M : xM) : xZ oI O (d + 9) 186 0 [(0, .ref v0), (1, .ref v1)] [] M (f_Law_areLaid O f v0 v1 M) := by
  unfold f_Law_areLaid
  refine xZ.adv (me := xm186) hP_186 3 (pc' := 6) (lv' := [(0, .ref v0), (1, .ref v1)]) (st' := [.int (400 : Int32), .ref v1, .int (100 : Int32)]) rfl ?_
  refine xZ.callv (κ := oI) (av := [.int (400 : Int32)]) (rest := [.int (100 : Int32)]) (st' := fun x1 => [.int x1, .int (100 : Int32)]) (k0 := v1) (me := xm186) hP_186 rfl (Or.inl rfl) ⟨rfl, by decide⟩ rfl rfl (Nat.le_of_ble_eq_true rfl) (by decide) hP_12 (Nat.le_of_ble_eq_true rfl) (fun _ => rfl) (k_f_LDraw_n O f (d + 8) v1 (400 : Int32) M) (fun x1 M1 => ?_)
  refine xZ.adv (me := xm186) hP_186 7 (pc' := 17) (lv' := [(2, .int ((100 : Int32) + x1)), (0, .ref v0), (1, .ref v1)]) (st' := [.int (12 : Int32), .ref v1, .int (1 : Int32), .ref v1, .ref v0]) rfl ?_
  refine xZ.callv (κ := oI) (av := [.int (12 : Int32)]) (rest := [.int (1 : Int32), .ref v1, .ref v0]) (st' := fun x2 => [.int x2, .int (1 : Int32), .ref v1, .ref v0]) (k0 := v1) (me := xm186) hP_186 rfl (Or.inl rfl) ⟨rfl, by decide⟩ rfl rfl (Nat.le_of_ble_eq_true rfl) (by decide) hP_12 (Nat.le_of_ble_eq_true rfl) (fun _ => rfl) (k_f_LDraw_n O f (d + 8) v1 (12 : Int32) M1) (fun x2 M2 => ?_)
  refine xZ.adv (me := xm186) hP_186 3 (pc' := 23) (lv' := [(2, .int ((100 : Int32) + x1)), (0, .ref v0), (1, .ref v1)]) (st' := [.int ((100 : Int32) + x1), .int (3 : Int32), .int ((1 : Int32) + x2), .ref v1, .ref v0]) rfl ?_
  refine xZ.calls (κ := oI) (av := [.ref v0, .ref v1, .int ((1 : Int32) + x2), .int (3 : Int32), .int ((100 : Int32) + x1)]) (rest := []) (st' := fun x3 => [.int x3]) (me := xm186) hP_186 rfl rfl rfl (Nat.le_of_ble_eq_true rfl) (by decide) hP_146 (Nat.le_of_ble_eq_true rfl) (fun _ => rfl) (k_f_Law_series O f (d + 0) v0 v1 ((1 : Int32) + x2) (3 : Int32) ((100 : Int32) + x1) M2) (fun x3 M3 => ?_)
  refine xZ.adv (me := xm186) hP_186 2 (pc' := 28) (lv' := [(3, .int x3), (2, .int ((100 : Int32) + x1)), (0, .ref v0), (1, .ref v1)]) (st' := [.int (4 : Int32)]) rfl ?_
  refine xZ.k_nA (me := xm186) hP_186 rfl rfl (by decide) (fun x4 M4 => ?_)
  refine xZ.adv (me := xm186) hP_186 4 (pc' := 35) (lv' := [(3, .int x3), (2, .int ((100 : Int32) + x1)), (0, .ref v0), (1, .ref v1)]) (st' := [.int (10 : Int32), .ref v1, .int (0 : Int32), .ref x4, .ref x4]) rfl ?_
  refine xZ.callv (κ := oI) (av := [.int (10 : Int32)]) (rest := [.int (0 : Int32), .ref x4, .ref x4]) (st' := fun x5 => [.int x5, .int (0 : Int32), .ref x4, .ref x4]) (k0 := v1) (me := xm186) hP_186 rfl (Or.inl rfl) ⟨rfl, by decide⟩ rfl rfl (Nat.le_of_ble_eq_true rfl) (by decide) hP_12 (Nat.le_of_ble_eq_true rfl) (fun _ => rfl) (k_f_LDraw_n O f (d + 8) v1 (10 : Int32) M4) (fun x5 M5 => ?_)
  refine xZ.k_wI (me := xm186) hP_186 rfl (fun M6 => ?_)
  refine xZ.adv (me := xm186) hP_186 4 (pc' := 44) (lv' := [(3, .int x3), (2, .int ((100 : Int32) + x1)), (0, .ref v0), (1, .ref v1)]) (st' := [.int (10 : Int32), .ref v1, .int (1 : Int32), .ref x4, .ref x4]) rfl ?_
  refine xZ.callv (κ := oI) (av := [.int (10 : Int32)]) (rest := [.int (1 : Int32), .ref x4, .ref x4]) (st' := fun x6 => [.int x6, .int (1 : Int32), .ref x4, .ref x4]) (k0 := v1) (me := xm186) hP_186 rfl (Or.inl rfl) ⟨rfl, by decide⟩ rfl rfl (Nat.le_of_ble_eq_true rfl) (by decide) hP_12 (Nat.le_of_ble_eq_true rfl) (fun _ => rfl) (k_f_LDraw_n O f (d + 8) v1 (10 : Int32) M6) (fun x6 M7 => ?_)
  refine xZ.k_wI (me := xm186) hP_186 rfl (fun M8 => ?_)
  refine xZ.adv (me := xm186) hP_186 4 (pc' := 52) (lv' := [(3, .int x3), (2, .int ((100 : Int32) + x1)), (0, .ref v0), (1, .ref v1)]) (st' := [.int (3 : Int32), .ref v1, .int (2 : Int32), .ref x4, .ref x4]) rfl ?_
  refine xZ.callv (κ := oI) (av := [.int (3 : Int32)]) (rest := [.int (2 : Int32), .ref x4, .ref x4]) (st' := fun x7 => [.int x7, .int (2 : Int32), .ref x4, .ref x4]) (k0 := v1) (me := xm186) hP_186 rfl (Or.inl rfl) ⟨rfl, by decide⟩ rfl rfl (Nat.le_of_ble_eq_true rfl) (by decide) hP_12 (Nat.le_of_ble_eq_true rfl) (fun _ => rfl) (k_f_LDraw_n O f (d + 8) v1 (3 : Int32) M8) (fun x7 M9 => ?_)
  refine xZ.k_wI (me := xm186) hP_186 rfl (fun M10 => ?_)
  refine xZ.adv (me := xm186) hP_186 3 (pc' := 59) (lv' := [(3, .int x3), (2, .int ((100 : Int32) + x1)), (0, .ref v0), (1, .ref v1)]) (st' := [.int (3 : Int32), .int (3 : Int32), .ref x4, .ref x4]) rfl ?_
  refine xZ.k_wI (me := xm186) hP_186 rfl (fun M11 => ?_)
  refine xZ.adv (me := xm186) hP_186 3 (pc' := 65) (lv' := [(5, .int (0 : Int32)), (4, .ref x4), (3, .int x3), (2, .int ((100 : Int32) + x1)), (0, .ref v0), (1, .ref v1)]) (st' := []) rfl ?_
  exact xZ.sub (xsc (.tail _ (.tail _ (.tail _ (.tail _ (.head _))))) (xsc (.tail _ (.tail _ (.tail _ (.tail _ (.tail _ (.head _)))))) (xsc (.tail _ (.tail _ (.tail _ (.head _)))) (xsc (.tail _ (.tail _ (.head _))) (xsc (.tail _ (.head _)) (xsc (.head _) xsn)))))) (show ([5, 4, 3, 2, 0, 1] : List Nat).Nodup from by decide) (k_f_Law_areLaid_65 O f d f v0 v1 ((100 : Int32) + x1) x3 x4 (0 : Int32) M11)
