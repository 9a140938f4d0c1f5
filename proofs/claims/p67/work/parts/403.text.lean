/-! ===== texts ===== -/
def f_Calendarhall_clearText (O : Nat → Option va_E) (f : Nat) (v0 : Nat) (M : xM) : Option (Int32 × xM) :=
  (gR O M v0 12 7).bind fun x1 =>
  (gI O M x1 8 0).bind fun x2 =>
  (gR O M v0 12 7).bind fun x3 =>
  (pI M x3 8 0 (0 : Int32)).bind fun M1 =>
  some (x2, M1)
set_option maxRecDepth 20000 in
theorem k_f_Calendarhall_clearText (O : Nat → Option va_E) (f d : Nat) (v0 : Nat) (M : xM) : xZ oI O (d + 0) 60 0 [(0, .ref v0)] [] M (f_Calendarhall_clearText O f v0 M) := by
  unfold f_Calendarhall_clearText
  refine xZ.adv (me := xm60) hP_60 1 (pc' := 1) (lv' := [(0, .ref v0)]) (st' := [.ref v0]) rfl ?_
  refine xZ.k_gR (me := xm60) hP_60 rfl (fun x1 => ?_)
  refine xZ.k_gI (me := xm60) hP_60 rfl (fun x2 => ?_)
  refine xZ.adv (me := xm60) hP_60 2 (pc' := 9) (lv' := [(1, .int x2), (0, .ref v0)]) (st' := [.ref v0]) rfl ?_
  refine xZ.k_gR (me := xm60) hP_60 rfl (fun x3 => ?_)
  refine xZ.adv (me := xm60) hP_60 1 (pc' := 13) (lv' := [(1, .int x2), (0, .ref v0)]) (st' := [.int (0 : Int32), .ref x3]) rfl ?_
  refine xZ.k_pI (me := xm60) hP_60 rfl (fun M1 => ?_)
  refine xZ.adv (me := xm60) hP_60 1 (pc' := 17) (lv' := [(1, .int x2), (0, .ref v0)]) (st' := [.int x2]) rfl ?_
  exact xZ.reti (me := xm60) hP_60 rfl rfl
def f_Reader_append (O : Nat → Option va_E) (f : Nat) (v0 : Nat) (v1 : Int32) (M : xM) : Option (Unit × xM) :=
  (gI O M v0 8 0).bind fun x1 =>
  if x1 < 0 then (
    some ((), M)
  ) else
  (gI O M v0 8 0).bind fun x2 =>
  (gR O M v0 8 2).bind fun x3 =>
  (aN O M x3).bind fun x4 =>
  if x2 < x4 then (
    (gR O M v0 8 2).bind fun x5 =>
    (gI O M v0 8 0).bind fun x6 =>
    (wC M x5 x6 ((Int32.toUInt32 v1 % 65536).toInt32)).bind fun M1 =>
    (gI O M1 v0 8 0).bind fun x7 =>
    (pI M1 v0 8 0 (x7 + (1 : Int32))).bind fun M2 =>
    some ((), M2)
  ) else
  some ((), M)
set_option maxRecDepth 20000 in
theorem k_f_Reader_append (O : Nat → Option va_E) (f d : Nat) (v0 : Nat) (v1 : Int32) (M : xM) : xZ oU O (d + 0) 62 0 [(0, .ref v0), (1, .int v1)] [] M (f_Reader_append O f v0 v1 M) := by
  unfold f_Reader_append
  refine xZ.adv (me := xm62) hP_62 1 (pc' := 1) (lv' := [(0, .ref v0), (1, .int v1)]) (st' := [.ref v0]) rfl ?_
  refine xZ.k_gI (me := xm62) hP_62 rfl (fun x1 => ?_)
  refine xZ.if_lt (me := xm62) hP_62 rfl (fun h1 => ?_) (fun h1 => ?_)
  · skip
    exact xZ.retu (me := xm62) hP_62 rfl rfl
  · skip
    refine xZ.adv (me := xm62) hP_62 1 (pc' := 8) (lv' := [(0, .ref v0), (1, .int v1)]) (st' := [.ref v0]) rfl ?_
    refine xZ.k_gI (me := xm62) hP_62 rfl (fun x2 => ?_)
    refine xZ.adv (me := xm62) hP_62 1 (pc' := 12) (lv' := [(0, .ref v0), (1, .int v1)]) (st' := [.ref v0, .int x2]) rfl ?_
    refine xZ.k_gR (me := xm62) hP_62 rfl (fun x3 => ?_)
    refine xZ.k_aN (me := xm62) hP_62 rfl (fun x4 => ?_)
    refine xZ.ic_lt (me := xm62) hP_62 rfl (fun h2 => ?_) (fun h2 => ?_)
    · skip
      refine xZ.adv (me := xm62) hP_62 1 (pc' := 21) (lv' := [(0, .ref v0), (1, .int v1)]) (st' := [.ref v0]) rfl ?_
      refine xZ.k_gR (me := xm62) hP_62 rfl (fun x5 => ?_)
      refine xZ.adv (me := xm62) hP_62 1 (pc' := 25) (lv' := [(0, .ref v0), (1, .int v1)]) (st' := [.ref v0, .ref x5]) rfl ?_
      refine xZ.k_gI (me := xm62) hP_62 rfl (fun x6 => ?_)
      refine xZ.adv (me := xm62) hP_62 2 (pc' := 30) (lv' := [(0, .ref v0), (1, .int v1)]) (st' := [.int ((Int32.toUInt32 v1 % 65536).toInt32), .int x6, .ref x5]) rfl ?_
      refine xZ.k_wC (me := xm62) hP_62 rfl (fun M1 => ?_)
      refine xZ.adv (me := xm62) hP_62 2 (pc' := 33) (lv' := [(0, .ref v0), (1, .int v1)]) (st' := [.ref v0, .ref v0]) rfl ?_
      refine xZ.k_gI (me := xm62) hP_62 rfl (fun x7 => ?_)
      refine xZ.adv (me := xm62) hP_62 2 (pc' := 38) (lv' := [(0, .ref v0), (1, .int v1)]) (st' := [.int (x7 + (1 : Int32)), .ref v0]) rfl ?_
      refine xZ.k_pI (me := xm62) hP_62 rfl (fun M2 => ?_)
      exact xZ.retu (me := xm62) hP_62 rfl rfl
    · skip
      exact xZ.retu (me := xm62) hP_62 rfl rfl
def f_Calendarhall_type_60 (O : Nat → Option va_E) (f : Nat) : Nat → Nat → Int64 → Int32 → xM → Option (Int32 × xM)
  | 0, _, _, _, _ => none
  | n + 1, v0, v1, v4, M =>
    if v4 < 0 then (
      (gR O M v0 12 7).bind fun x1 =>
      (gI O M x1 8 0).bind fun x2 =>
      some (x2, M)
    ) else
    xlet (Int64.toInt32 ((Int64.toUInt64 v1 >>> ((Int32.toInt64 v4).toUInt64 &&& Int64.toUInt64 63)).toInt64 &&& (255 : Int64))) fun x3 =>
    if x3 = 0 then (
      f_Calendarhall_type_60 O f n v0 v1 (v4 + (-8 : Int32)) M
    ) else
    (gR O M v0 12 7).bind fun x4 =>
    (isO O M x4 8).bind fun _ =>
    xcl (f_Reader_append O f x4 x3 M) fun _ M1 =>
    f_Calendarhall_type_60 O f n v0 v1 (v4 + (-8 : Int32)) M1
set_option maxRecDepth 20000 in
theorem k_f_Calendarhall_type_60 (O : Nat → Option va_E) (f d : Nat) : ∀ (n : Nat) (v0 : Nat) (v1 : Int64) (v4 : Int32) (M : xM), xZ oI O (d + 1) 61 60 [(0, .ref v0), (1, .long v1), (4, .int v4)] [] M (f_Calendarhall_type_60 O f n v0 v1 v4 M) := by
  intro n
  induction n with
  | zero =>
    intro v0 v1 v4 M
    exact xZ.no
  | succ n ih =>
    intro v0 v1 v4 M
    unfold f_Calendarhall_type_60
    refine xZ.adv (me := xm61) hP_61 1 (pc' := 62) (lv' := [(0, .ref v0), (1, .long v1), (4, .int v4)]) (st' := [.int v4]) rfl ?_
    refine xZ.if_lt (me := xm61) hP_61 rfl (fun h1 => ?_) (fun h1 => ?_)
    · skip
      refine xZ.adv (me := xm61) hP_61 1 (pc' := 97) (lv' := [(0, .ref v0), (1, .long v1), (4, .int v4)]) (st' := [.ref v0]) rfl ?_
      refine xZ.k_gR (me := xm61) hP_61 rfl (fun x1 => ?_)
      refine xZ.k_gI (me := xm61) hP_61 rfl (fun x2 => ?_)
      exact xZ.reti (me := xm61) hP_61 rfl rfl
    · skip
      refine xZ.adv (me := xm61) hP_61 7 (pc' := 76) (lv' := [(5, .int (Int64.toInt32 ((Int64.toUInt64 v1 >>> ((Int32.toInt64 v4).toUInt64 &&& Int64.toUInt64 63)).toInt64 &&& (255 : Int64)))), (0, .ref v0), (1, .long v1), (4, .int v4)]) (st' := []) rfl ?_
      refine xZ.letI (v := (Int64.toInt32 ((Int64.toUInt64 v1 >>> ((Int32.toInt64 v4).toUInt64 &&& Int64.toUInt64 63)).toInt64 &&& (255 : Int64)))) (lvf := fun x3 => [(5, .int x3), (0, .ref v0), (1, .long v1), (4, .int v4)]) (stf := fun x3 => []) ?_
      intro x3
      refine xZ.adv (me := xm61) hP_61 1 (pc' := 78) (lv' := [(5, .int x3), (0, .ref v0), (1, .long v1), (4, .int v4)]) (st' := [.int x3]) rfl ?_
      refine xZ.if_eq (me := xm61) hP_61 rfl (fun h2 => ?_) (fun h2 => ?_)
      · skip
        refine xZ.adv (me := xm61) hP_61 2 (pc' := 60) (lv' := [(4, .int (v4 + (-8 : Int32))), (5, .int x3), (0, .ref v0), (1, .long v1)]) (st' := []) rfl ?_
        exact xZ.sub (xsc (.tail _ (.tail _ (.head _))) (xsc (.tail _ (.tail _ (.tail _ (.head _)))) (xsc (.head _) xsn))) (show ([4, 5, 0, 1] : List Nat).Nodup from by decide) (ih v0 v1 (v4 + (-8 : Int32)) M)
      · skip
        refine xZ.adv (me := xm61) hP_61 1 (pc' := 82) (lv' := [(5, .int x3), (0, .ref v0), (1, .long v1), (4, .int v4)]) (st' := [.ref v0]) rfl ?_
        refine xZ.k_gR (me := xm61) hP_61 rfl (fun x4 => ?_)
        refine xZ.adv (me := xm61) hP_61 1 (pc' := 87) (lv' := [(5, .int x3), (0, .ref v0), (1, .long v1), (4, .int v4)]) (st' := [.int x3, .ref x4]) rfl ?_
        refine xZ.callv (κ := oU) (av := [.int x3]) (rest := []) (st' := fun _ => []) (k0 := x4) (me := xm61) hP_61 rfl (Or.inl rfl) ⟨rfl, by decide⟩ rfl rfl (Nat.le_of_ble_eq_true rfl) (by decide) hP_62 (Nat.le_of_ble_eq_true rfl) (fun _ => rfl) (k_f_Reader_append O f (d + 0) x4 x3 M) (fun _ M1 => ?_)
        refine xZ.adv (me := xm61) hP_61 2 (pc' := 60) (lv' := [(4, .int (v4 + (-8 : Int32))), (5, .int x3), (0, .ref v0), (1, .long v1)]) (st' := []) rfl ?_
        exact xZ.sub (xsc (.tail _ (.tail _ (.head _))) (xsc (.tail _ (.tail _ (.tail _ (.head _)))) (xsc (.head _) xsn))) (show ([4, 5, 0, 1] : List Nat).Nodup from by decide) (ih v0 v1 (v4 + (-8 : Int32)) M1)
def f_Calendarhall_type_5 (O : Nat → Option va_E) (f : Nat) : Nat → Nat → Int64 → Int32 → Int32 → xM → Option (Int32 × xM)
  | 0, _, _, _, _, _ => none
  | n + 1, v0, v1, v3, v4, M =>
    if (64 : Int32) ≤ v4 then (
      (gR O M v0 12 7).bind fun x1 =>
      (gI O M x1 8 0).bind fun x2 =>
      if (x2 + v3) ≤ (120 : Int32) then (
        f_Calendarhall_type_60 O f f v0 v1 (56 : Int32) M
      ) else
      none
    ) else
    if (lg_cmp ((Int64.toUInt64 v1 >>> ((Int32.toInt64 v4).toUInt64 &&& Int64.toUInt64 63)).toInt64 &&& (255 : Int64)) (0 : Int64)) = 0 then (
      f_Calendarhall_type_5 O f n v0 v1 v3 (v4 + (8 : Int32)) M
    ) else
    f_Calendarhall_type_5 O f n v0 v1 (v3 + (1 : Int32)) (v4 + (8 : Int32)) M
set_option maxRecDepth 20000 in
theorem k_f_Calendarhall_type_5 (O : Nat → Option va_E) (f d : Nat) : ∀ (n : Nat) (v0 : Nat) (v1 : Int64) (v3 : Int32) (v4 : Int32) (M : xM), xZ oI O (d + 1) 61 5 [(0, .ref v0), (1, .long v1), (3, .int v3), (4, .int v4)] [] M (f_Calendarhall_type_5 O f n v0 v1 v3 v4 M) := by
  intro n
  induction n with
  | zero =>
    intro v0 v1 v3 v4 M
    exact xZ.no
  | succ n ih =>
    intro v0 v1 v3 v4 M
    unfold f_Calendarhall_type_5
    refine xZ.adv (me := xm61) hP_61 2 (pc' := 9) (lv' := [(0, .ref v0), (1, .long v1), (3, .int v3), (4, .int v4)]) (st' := [.int (64 : Int32), .int v4]) rfl ?_
    refine xZ.ic_ge (me := xm61) hP_61 rfl (fun h1 => ?_) (fun h1 => ?_)
    · skip
      refine xZ.adv (me := xm61) hP_61 1 (pc' := 35) (lv' := [(0, .ref v0), (1, .long v1), (3, .int v3), (4, .int v4)]) (st' := [.ref v0]) rfl ?_
      refine xZ.k_gR (me := xm61) hP_61 rfl (fun x1 => ?_)
      refine xZ.k_gI (me := xm61) hP_61 rfl (fun x2 => ?_)
      refine xZ.adv (me := xm61) hP_61 3 (pc' := 45) (lv' := [(0, .ref v0), (1, .long v1), (3, .int v3), (4, .int v4)]) (st' := [.int (120 : Int32), .int (x2 + v3)]) rfl ?_
      refine xZ.ic_le (me := xm61) hP_61 rfl (fun h2 => ?_) (fun h2 => ?_)
      · skip
        refine xZ.adv (me := xm61) hP_61 2 (pc' := 60) (lv' := [(4, .int (56 : Int32)), (0, .ref v0), (1, .long v1), (3, .int v3)]) (st' := []) rfl ?_
        exact xZ.sub (xsc (.tail _ (.head _)) (xsc (.tail _ (.tail _ (.head _))) (xsc (.head _) xsn))) (show ([4, 0, 1, 3] : List Nat).Nodup from by decide) (k_f_Calendarhall_type_60 O f d f v0 v1 (56 : Int32) M)
      · skip
        exact xZ.no
    · skip
      refine xZ.adv (me := xm61) hP_61 7 (pc' := 22) (lv' := [(0, .ref v0), (1, .long v1), (3, .int v3), (4, .int v4)]) (st' := [.int (lg_cmp ((Int64.toUInt64 v1 >>> ((Int32.toInt64 v4).toUInt64 &&& Int64.toUInt64 63)).toInt64 &&& (255 : Int64)) (0 : Int64))]) rfl ?_
      refine xZ.if_eq (me := xm61) hP_61 rfl (fun h3 => ?_) (fun h3 => ?_)
      · skip
        refine xZ.adv (me := xm61) hP_61 2 (pc' := 5) (lv' := [(4, .int (v4 + (8 : Int32))), (0, .ref v0), (1, .long v1), (3, .int v3)]) (st' := []) rfl ?_
        exact xZ.sub (xsc (.tail _ (.head _)) (xsc (.tail _ (.tail _ (.head _))) (xsc (.tail _ (.tail _ (.tail _ (.head _)))) (xsc (.head _) xsn)))) (show ([4, 0, 1, 3] : List Nat).Nodup from by decide) (ih v0 v1 v3 (v4 + (8 : Int32)) M)
      · skip
        refine xZ.adv (me := xm61) hP_61 3 (pc' := 5) (lv' := [(4, .int (v4 + (8 : Int32))), (3, .int (v3 + (1 : Int32))), (0, .ref v0), (1, .long v1)]) (st' := []) rfl ?_
        exact xZ.sub (xsc (.tail _ (.tail _ (.head _))) (xsc (.tail _ (.tail _ (.tail _ (.head _)))) (xsc (.tail _ (.head _)) (xsc (.head _) xsn)))) (show ([4, 3, 0, 1] : List Nat).Nodup from by decide) (ih v0 v1 (v3 + (1 : Int32)) (v4 + (8 : Int32)) M)
def f_Calendarhall_type (O : Nat → Option va_E) (f : Nat) (v0 : Nat) (v1 : Int64) (M : xM) : Option (Int32 × xM) :=
  f_Calendarhall_type_5 O f f v0 v1 (0 : Int32) (0 : Int32) M
set_option maxRecDepth 20000 in
theorem k_f_Calendarhall_type (O : Nat → Option va_E) (f d : Nat) (v0 : Nat) (v1 : Int64) (M : xM) : xZ oI O (d + 1) 61 0 [(0, .ref v0), (1, .long v1)] [] M (f_Calendarhall_type O f v0 v1 M) := by
  unfold f_Calendarhall_type
  refine xZ.adv (me := xm61) hP_61 4 (pc' := 5) (lv' := [(4, .int (0 : Int32)), (3, .int (0 : Int32)), (0, .ref v0), (1, .long v1)]) (st' := []) rfl ?_
  exact xZ.sub (xsc (.tail _ (.tail _ (.head _))) (xsc (.tail _ (.tail _ (.tail _ (.head _)))) (xsc (.tail _ (.head _)) (xsc (.head _) xsn)))) (show ([4, 3, 0, 1] : List Nat).Nodup from by decide) (k_f_Calendarhall_type_5 O f d f v0 v1 (0 : Int32) (0 : Int32) M)
def f_String_isLatin1 (O : Nat → Option va_E) (f : Nat) (v0 : Nat) (M : xM) : Option (Int32 × xM) :=
  if (1 : Int32) = 0 then (
    some ((0 : Int32), M)
  ) else
  (gI O M v0 0 1).bind fun x1 =>
  if x1 = 0 then (
    some ((1 : Int32), M)
  ) else
  some ((0 : Int32), M)
set_option maxRecDepth 20000 in
theorem k_f_String_isLatin1 (O : Nat → Option va_E) (f d : Nat) (v0 : Nat) (M : xM) : xZ oI O (d + 0) 290 0 [(0, .ref v0)] [] M (f_String_isLatin1 O f v0 M) := by
  unfold f_String_isLatin1
  refine xZ.adv (me := xm290) hP_290 1 (pc' := 3) (lv' := [(0, .ref v0)]) (st' := [.int (1 : Int32)]) rfl ?_
  refine xZ.if_eq (me := xm290) hP_290 rfl (fun h1 => ?_) (fun h1 => ?_)
  · skip
    refine xZ.adv (me := xm290) hP_290 1 (pc' := 18) (lv' := [(0, .ref v0)]) (st' := [.int (0 : Int32)]) rfl ?_
    exact xZ.rete (me := xm290) hP_290 rfl rfl rfl
  · skip
    refine xZ.adv (me := xm290) hP_290 1 (pc' := 7) (lv' := [(0, .ref v0)]) (st' := [.ref v0]) rfl ?_
    refine xZ.k_gI (me := xm290) hP_290 rfl (fun x1 => ?_)
    refine xZ.if_ne (me := xm290) hP_290 rfl (fun h2 => ?_) (fun h2 => ?_)
    · skip
      refine xZ.adv (me := xm290) hP_290 2 (pc' := 18) (lv' := [(0, .ref v0)]) (st' := [.int (1 : Int32)]) rfl ?_
      exact xZ.rete (me := xm290) hP_290 rfl rfl rfl
    · skip
      refine xZ.adv (me := xm290) hP_290 1 (pc' := 18) (lv' := [(0, .ref v0)]) (st' := [.int (0 : Int32)]) rfl ?_
      exact xZ.rete (me := xm290) hP_290 rfl rfl rfl
def f_Preconditions_checkIndex (O : Nat → Option va_E) (f : Nat) (v0 : Int32) (v1 : Int32) (M : xM) : Option (Int32 × xM) :=
  if v0 < 0 then (
    none
  ) else
  if v0 < v1 then (
    some (v0, M)
  ) else
  none
set_option maxRecDepth 20000 in
theorem k_f_Preconditions_checkIndex (O : Nat → Option va_E) (f d : Nat) (v0 : Int32) (v1 : Int32) (M : xM) : xZ oI O (d + 0) 293 0 [(0, .int v0), (1, .int v1), (2, .float 7)] [] M (f_Preconditions_checkIndex O f v0 v1 M) := by
  unfold f_Preconditions_checkIndex
  refine xZ.adv (me := xm293) hP_293 1 (pc' := 1) (lv' := [(0, .int v0), (1, .int v1), (2, .float 7)]) (st' := [.int v0]) rfl ?_
  refine xZ.if_lt (me := xm293) hP_293 rfl (fun h1 => ?_) (fun h1 => ?_)
  · skip
    refine xZ.adv (me := xm293) hP_293 3 (pc' := 12) (lv' := [(0, .int v0), (1, .int v1), (2, .float 7)]) (st' := [.int v1, .int v0, .float 7]) rfl ?_
    exact xZ.no
  · skip
    refine xZ.adv (me := xm293) hP_293 2 (pc' := 6) (lv' := [(0, .int v0), (1, .int v1), (2, .float 7)]) (st' := [.int v1, .int v0]) rfl ?_
    refine xZ.ic_lt (me := xm293) hP_293 rfl (fun h2 => ?_) (fun h2 => ?_)
    · skip
      refine xZ.adv (me := xm293) hP_293 1 (pc' := 17) (lv' := [(0, .int v0), (1, .int v1), (2, .float 7)]) (st' := [.int v0]) rfl ?_
      exact xZ.reti (me := xm293) hP_293 rfl rfl
    · skip
      refine xZ.adv (me := xm293) hP_293 3 (pc' := 12) (lv' := [(0, .int v0), (1, .int v1), (2, .float 7)]) (st' := [.int v1, .int v0, .float 7]) rfl ?_
      exact xZ.no
def f_String_checkIndex (O : Nat → Option va_E) (f : Nat) (v0 : Int32) (v1 : Int32) (M : xM) : Option (Unit × xM) :=
  xcl (f_Preconditions_checkIndex O f v0 v1 M) fun x1 M1 =>
  some ((), M1)
set_option maxRecDepth 20000 in
theorem k_f_String_checkIndex (O : Nat → Option va_E) (f d : Nat) (v0 : Int32) (v1 : Int32) (M : xM) : xZ oU O (d + 1) 292 0 [(0, .int v0), (1, .int v1)] [] M (f_String_checkIndex O f v0 v1 M) := by
  unfold f_String_checkIndex
  refine xZ.adv (me := xm292) hP_292 3 (pc' := 5) (lv' := [(0, .int v0), (1, .int v1)]) (st' := [.float 7, .int v1, .int v0]) rfl ?_
  refine xZ.calls (κ := oI) (av := [.int v0, .int v1, .float 7]) (rest := []) (st' := fun x1 => [.int x1]) (me := xm292) hP_292 rfl rfl rfl (Nat.le_of_ble_eq_true rfl) (by decide) hP_293 (Nat.le_of_ble_eq_true rfl) (fun _ => rfl) (k_f_Preconditions_checkIndex O f (d + 0) v0 v1 M) (fun x1 M1 => ?_)
  refine xZ.adv (me := xm292) hP_292 1 (pc' := 9) (lv' := [(0, .int v0), (1, .int v1)]) (st' := []) rfl ?_
  exact xZ.retu (me := xm292) hP_292 rfl rfl
def f_StringLatin1_charAt (O : Nat → Option va_E) (f : Nat) (v0 : Nat) (v1 : Int32) (M : xM) : Option (Int32 × xM) :=
  (aN O M v0).bind fun x1 =>
  xcl (f_String_checkIndex O f v1 x1 M) fun _ M1 =>
  (aB O M1 v0 v1).bind fun x3 =>
  if xfit .char (.int ((Int32.toUInt32 (x3 &&& (255 : Int32)) % 65536).toInt32)) = true then some ((Int32.toUInt32 (x3 &&& (255 : Int32)) % 65536).toInt32, M1) else none
set_option maxRecDepth 20000 in
theorem k_f_StringLatin1_charAt (O : Nat → Option va_E) (f d : Nat) (v0 : Nat) (v1 : Int32) (M : xM) : xZ oI O (d + 2) 291 0 [(0, .ref v0), (1, .int v1)] [] M (f_StringLatin1_charAt O f v0 v1 M) := by
  unfold f_StringLatin1_charAt
  refine xZ.adv (me := xm291) hP_291 2 (pc' := 2) (lv' := [(0, .ref v0), (1, .int v1)]) (st' := [.ref v0, .int v1]) rfl ?_
  refine xZ.k_aN (me := xm291) hP_291 rfl (fun x1 => ?_)
  refine xZ.calls (κ := oU) (av := [.int v1, .int x1]) (rest := []) (st' := fun _ => []) (me := xm291) hP_291 rfl rfl rfl (Nat.le_of_ble_eq_true rfl) (by decide) hP_292 (Nat.le_of_ble_eq_true rfl) (fun _ => rfl) (k_f_String_checkIndex O f (d + 0) v1 x1 M) (fun _ M1 => ?_)
  refine xZ.adv (me := xm291) hP_291 2 (pc' := 8) (lv' := [(0, .ref v0), (1, .int v1)]) (st' := [.int v1, .ref v0]) rfl ?_
  refine xZ.k_aB (me := xm291) hP_291 rfl (fun x3 => ?_)
  refine xZ.adv (me := xm291) hP_291 3 (pc' := 14) (lv' := [(0, .ref v0), (1, .int v1)]) (st' := [.int ((Int32.toUInt32 (x3 &&& (255 : Int32)) % 65536).toInt32)]) rfl ?_
  exact xZ.retf (me := xm291) hP_291 rfl rfl
def f_String_charAt (O : Nat → Option va_E) (f : Nat) (v0 : Nat) (v1 : Int32) (M : xM) : Option (Int32 × xM) :=
  (isO O M v0 0).bind fun _ =>
  xcl (f_String_isLatin1 O f v0 M) fun x1 M1 =>
  if x1 = 0 then (
    (gR O M1 v0 0 0).bind fun x2 =>
    none
  ) else
  (gR O M1 v0 0 0).bind fun x3 =>
  xcl (f_StringLatin1_charAt O f x3 v1 M1) fun x4 M2 =>
  if xfit .char (.int x4) = true then some (x4, M2) else none
set_option maxRecDepth 20000 in
theorem k_f_String_charAt (O : Nat → Option va_E) (f d : Nat) (v0 : Nat) (v1 : Int32) (M : xM) : xZ oI O (d + 3) 289 0 [(0, .ref v0), (1, .int v1)] [] M (f_String_charAt O f v0 v1 M) := by
  unfold f_String_charAt
  refine xZ.adv (me := xm289) hP_289 1 (pc' := 1) (lv' := [(0, .ref v0), (1, .int v1)]) (st' := [.ref v0]) rfl ?_
  refine xZ.callv (κ := oI) (av := []) (rest := []) (st' := fun x1 => [.int x1]) (k0 := v0) (me := xm289) hP_289 rfl (Or.inl rfl) ⟨rfl, by decide⟩ rfl rfl (Nat.le_of_ble_eq_true rfl) (by decide) hP_290 (Nat.le_of_ble_eq_true rfl) (fun _ => rfl) (k_f_String_isLatin1 O f (d + 2) v0 M) (fun x1 M1 => ?_)
  refine xZ.if_eq (me := xm289) hP_289 rfl (fun h1 => ?_) (fun h1 => ?_)
  · skip
    refine xZ.adv (me := xm289) hP_289 1 (pc' := 17) (lv' := [(0, .ref v0), (1, .int v1)]) (st' := [.ref v0]) rfl ?_
    refine xZ.k_gR (me := xm289) hP_289 rfl (fun x2 => ?_)
    refine xZ.adv (me := xm289) hP_289 1 (pc' := 21) (lv' := [(0, .ref v0), (1, .int v1)]) (st' := [.int v1, .ref x2]) rfl ?_
    exact xZ.no
  · skip
    refine xZ.adv (me := xm289) hP_289 1 (pc' := 8) (lv' := [(0, .ref v0), (1, .int v1)]) (st' := [.ref v0]) rfl ?_
    refine xZ.k_gR (me := xm289) hP_289 rfl (fun x3 => ?_)
    refine xZ.adv (me := xm289) hP_289 1 (pc' := 12) (lv' := [(0, .ref v0), (1, .int v1)]) (st' := [.int v1, .ref x3]) rfl ?_
    refine xZ.calls (κ := oI) (av := [.ref x3, .int v1]) (rest := []) (st' := fun x4 => [.int x4]) (me := xm289) hP_289 rfl rfl rfl (Nat.le_of_ble_eq_true rfl) (by decide) hP_291 (Nat.le_of_ble_eq_true rfl) (fun _ => rfl) (k_f_StringLatin1_charAt O f (d + 0) x3 v1 M1) (fun x4 M2 => ?_)
    exact xZ.retf (me := xm289) hP_289 rfl rfl
def f_Law_type_53 (O : Nat → Option va_E) (f : Nat) (K20 : Nat → Nat → Int32 → Int64 → Int32 → xM → Option (Unit × xM)) (v0 : Nat) (v1 : Nat) (v2 : Int32) (v5 : Int32) (s0 : Int64) (s1 : Int64) (M : xM) : Option (Unit × xM) :=
  K20 v0 v1 v2 (s0 ||| s1) (v5 + (1 : Int32)) M
set_option maxRecDepth 20000 in
theorem k_f_Law_type_53 (O : Nat → Option va_E) (f d : Nat) (K20 : Nat → Nat → Int32 → Int64 → Int32 → xM → Option (Unit × xM)) (hK20 : ∀ (v0 : Nat) (v1 : Nat) (v2 : Int32) (v3 : Int64) (v5 : Int32) M, xZ oU O (d + 4) 59 20 [(0, .ref v0), (1, .ref v1), (2, .int v2), (3, .long v3), (5, .int v5)] [] M (K20 v0 v1 v2 v3 v5 M)) (v0 : Nat) (v1 : Nat) (v2 : Int32) (v5 : Int32) (s0 : Int64) (s1 : Int64) (M : xM) : xZ oU O (d + 4) 59 53 [(0, .ref v0), (1, .ref v1), (2, .int v2), (5, .int v5)] [.long s1, .long s0] M (f_Law_type_53 O f K20 v0 v1 v2 v5 s0 s1 M) := by
  unfold f_Law_type_53
  refine xZ.adv (me := xm59) hP_59 4 (pc' := 20) (lv' := [(5, .int (v5 + (1 : Int32))), (3, .long (s0 ||| s1)), (0, .ref v0), (1, .ref v1), (2, .int v2)]) (st' := []) rfl ?_
  exact xZ.sub (xsc (.tail _ (.tail _ (.head _))) (xsc (.tail _ (.tail _ (.tail _ (.head _)))) (xsc (.tail _ (.tail _ (.tail _ (.tail _ (.head _))))) (xsc (.tail _ (.head _)) (xsc (.head _) xsn))))) (show ([5, 3, 0, 1, 2] : List Nat).Nodup from by decide) (hK20 v0 v1 v2 (s0 ||| s1) (v5 + (1 : Int32)) M)
def f_Law_type_20 (O : Nat → Option va_E) (f : Nat) (K7 : Nat → Nat → Int32 → xM → Option (Unit × xM)) : Nat → Nat → Nat → Int32 → Int64 → Int32 → xM → Option (Unit × xM)
  | 0, _, _, _, _, _, _ => none
  | n + 1, v0, v1, v2, v3, v5, M =>
    if (v2 + (8 : Int32)) ≤ v5 then (
      (isO O M v0 12).bind fun _ =>
      xcl (f_Calendarhall_type O f v0 v3 M) fun x1 M1 =>
      K7 v0 v1 (v2 + (8 : Int32)) M1
    ) else
    (isO O M v1 0).bind fun _ =>
    xcl (f_String_length O f v1 M) fun x2 M2 =>
    if x2 ≤ v5 then (
      f_Law_type_53 O f (f_Law_type_20 O f K7 n) v0 v1 v2 v5 (v3 <<< (Int32.toInt64 (8 : Int32) &&& 63)) (0 : Int64) M2
    ) else
    (isO O M2 v1 0).bind fun _ =>
    xcl (f_String_charAt O f v1 v5 M2) fun x3 M3 =>
    f_Law_type_53 O f (f_Law_type_20 O f K7 n) v0 v1 v2 v5 (v3 <<< (Int32.toInt64 (8 : Int32) &&& 63)) (Int32.toInt64 x3) M3
set_option maxRecDepth 20000 in
theorem k_f_Law_type_20 (O : Nat → Option va_E) (f d : Nat) (K7 : Nat → Nat → Int32 → xM → Option (Unit × xM)) (hK7 : ∀ (v0 : Nat) (v1 : Nat) (v2 : Int32) M, xZ oU O (d + 4) 59 7 [(0, .ref v0), (1, .ref v1), (2, .int v2)] [] M (K7 v0 v1 v2 M)) : ∀ (n : Nat) (v0 : Nat) (v1 : Nat) (v2 : Int32) (v3 : Int64) (v5 : Int32) (M : xM), xZ oU O (d + 4) 59 20 [(0, .ref v0), (1, .ref v1), (2, .int v2), (3, .long v3), (5, .int v5)] [] M (f_Law_type_20 O f K7 n v0 v1 v2 v3 v5 M) := by
  intro n
  induction n with
  | zero =>
    intro v0 v1 v2 v3 v5 M
    exact xZ.no
  | succ n ih =>
    intro v0 v1 v2 v3 v5 M
    unfold f_Law_type_20
    refine xZ.adv (me := xm59) hP_59 4 (pc' := 26) (lv' := [(0, .ref v0), (1, .ref v1), (2, .int v2), (3, .long v3), (5, .int v5)]) (st' := [.int (v2 + (8 : Int32)), .int v5]) rfl ?_
    refine xZ.ic_ge (me := xm59) hP_59 rfl (fun h1 => ?_) (fun h1 => ?_)
    · skip
      refine xZ.adv (me := xm59) hP_59 2 (pc' := 63) (lv' := [(0, .ref v0), (1, .ref v1), (2, .int v2), (3, .long v3), (5, .int v5)]) (st' := [.long v3, .ref v0]) rfl ?_
      refine xZ.callv (κ := oI) (av := [.long v3]) (rest := []) (st' := fun x1 => [.int x1]) (k0 := v0) (me := xm59) hP_59 rfl (Or.inl rfl) ⟨rfl, by decide⟩ rfl rfl (Nat.le_of_ble_eq_true rfl) (by decide) hP_61 (Nat.le_of_ble_eq_true rfl) (fun _ => rfl) (k_f_Calendarhall_type O f (d + 2) v0 v3 M) (fun x1 M1 => ?_)
      refine xZ.adv (me := xm59) hP_59 3 (pc' := 7) (lv' := [(2, .int (v2 + (8 : Int32))), (0, .ref v0), (1, .ref v1), (3, .long v3), (5, .int v5)]) (st' := []) rfl ?_
      exact xZ.sub (xsc (.tail _ (.head _)) (xsc (.tail _ (.tail _ (.head _))) (xsc (.head _) xsn))) (show ([2, 0, 1, 3, 5] : List Nat).Nodup from by decide) (hK7 v0 v1 (v2 + (8 : Int32)) M1)
    · skip
      refine xZ.adv (me := xm59) hP_59 5 (pc' := 36) (lv' := [(0, .ref v0), (1, .ref v1), (2, .int v2), (3, .long v3), (5, .int v5)]) (st' := [.ref v1, .int v5, .long (v3 <<< (Int32.toInt64 (8 : Int32) &&& 63))]) rfl ?_
      refine xZ.callv (κ := oI) (av := []) (rest := [.int v5, .long (v3 <<< (Int32.toInt64 (8 : Int32) &&& 63))]) (st' := fun x2 => [.int x2, .int v5, .long (v3 <<< (Int32.toInt64 (8 : Int32) &&& 63))]) (k0 := v1) (me := xm59) hP_59 rfl (Or.inl rfl) ⟨rfl, by decide⟩ rfl rfl (Nat.le_of_ble_eq_true rfl) (by decide) hP_267 (Nat.le_of_ble_eq_true rfl) (fun _ => rfl) (k_f_String_length O f (d + 2) v1 M) (fun x2 M2 => ?_)
      refine xZ.ic_ge (me := xm59) hP_59 rfl (fun h2 => ?_) (fun h2 => ?_)
      · skip
        refine xZ.adv (me := xm59) hP_59 1 (pc' := 53) (lv' := [(0, .ref v0), (1, .ref v1), (2, .int v2), (3, .long v3), (5, .int v5)]) (st' := [.long (0 : Int64), .long (v3 <<< (Int32.toInt64 (8 : Int32) &&& 63))]) rfl ?_
        exact xZ.sub (xsc (.head _) (xsc (.tail _ (.head _)) (xsc (.tail _ (.tail _ (.head _))) (xsc (.tail _ (.tail _ (.tail _ (.tail _ (.head _))))) xsn)))) (show ([0, 1, 2, 3, 5] : List Nat).Nodup from by decide) (k_f_Law_type_53 O f d (f_Law_type_20 O f K7 n) ih v0 v1 v2 v5 (v3 <<< (Int32.toInt64 (8 : Int32) &&& 63)) (0 : Int64) M2)
      · skip
        refine xZ.adv (me := xm59) hP_59 2 (pc' := 45) (lv' := [(0, .ref v0), (1, .ref v1), (2, .int v2), (3, .long v3), (5, .int v5)]) (st' := [.int v5, .ref v1, .long (v3 <<< (Int32.toInt64 (8 : Int32) &&& 63))]) rfl ?_
        refine xZ.callv (κ := oI) (av := [.int v5]) (rest := [.long (v3 <<< (Int32.toInt64 (8 : Int32) &&& 63))]) (st' := fun x3 => [.int x3, .long (v3 <<< (Int32.toInt64 (8 : Int32) &&& 63))]) (k0 := v1) (me := xm59) hP_59 rfl (Or.inl rfl) ⟨rfl, by decide⟩ rfl rfl (Nat.le_of_ble_eq_true rfl) (by decide) hP_289 (Nat.le_of_ble_eq_true rfl) (fun _ => rfl) (k_f_String_charAt O f (d + 0) v1 v5 M2) (fun x3 M3 => ?_)
        refine xZ.adv (me := xm59) hP_59 2 (pc' := 53) (lv' := [(0, .ref v0), (1, .ref v1), (2, .int v2), (3, .long v3), (5, .int v5)]) (st' := [.long (Int32.toInt64 x3), .long (v3 <<< (Int32.toInt64 (8 : Int32) &&& 63))]) rfl ?_
        exact xZ.sub (xsc (.head _) (xsc (.tail _ (.head _)) (xsc (.tail _ (.tail _ (.head _))) (xsc (.tail _ (.tail _ (.tail _ (.tail _ (.head _))))) xsn)))) (show ([0, 1, 2, 3, 5] : List Nat).Nodup from by decide) (k_f_Law_type_53 O f d (f_Law_type_20 O f K7 n) ih v0 v1 v2 v5 (v3 <<< (Int32.toInt64 (8 : Int32) &&& 63)) (Int32.toInt64 x3) M3)
def f_Law_type_7 (O : Nat → Option va_E) (f : Nat) : Nat → Nat → Nat → Int32 → xM → Option (Unit × xM)
  | 0, _, _, _, _ => none
  | n + 1, v0, v1, v2, M =>
    (isO O M v1 0).bind fun _ =>
    xcl (f_String_length O f v1 M) fun x1 M1 =>
    if x1 ≤ v2 then (
      some ((), M1)
    ) else
    f_Law_type_20 O f (f_Law_type_7 O f n) f v0 v1 v2 (0 : Int64) v2 M1
set_option maxRecDepth 20000 in
theorem k_f_Law_type_7 (O : Nat → Option va_E) (f d : Nat) : ∀ (n : Nat) (v0 : Nat) (v1 : Nat) (v2 : Int32) (M : xM), xZ oU O (d + 4) 59 7 [(0, .ref v0), (1, .ref v1), (2, .int v2)] [] M (f_Law_type_7 O f n v0 v1 v2 M) := by
  intro n
  induction n with
  | zero =>
    intro v0 v1 v2 M
    exact xZ.no
  | succ n ih =>
    intro v0 v1 v2 M
    unfold f_Law_type_7
    refine xZ.adv (me := xm59) hP_59 2 (pc' := 9) (lv' := [(0, .ref v0), (1, .ref v1), (2, .int v2)]) (st' := [.ref v1, .int v2]) rfl ?_
    refine xZ.callv (κ := oI) (av := []) (rest := [.int v2]) (st' := fun x1 => [.int x1, .int v2]) (k0 := v1) (me := xm59) hP_59 rfl (Or.inl rfl) ⟨rfl, by decide⟩ rfl rfl (Nat.le_of_ble_eq_true rfl) (by decide) hP_267 (Nat.le_of_ble_eq_true rfl) (fun _ => rfl) (k_f_String_length O f (d + 2) v1 M) (fun x1 M1 => ?_)
    refine xZ.ic_ge (me := xm59) hP_59 rfl (fun h1 => ?_) (fun h1 => ?_)
    · skip
      exact xZ.retu (me := xm59) hP_59 rfl rfl
    · skip
      refine xZ.adv (me := xm59) hP_59 4 (pc' := 20) (lv' := [(5, .int v2), (3, .long (0 : Int64)), (0, .ref v0), (1, .ref v1), (2, .int v2)]) (st' := []) rfl ?_
      exact xZ.sub (xsc (.tail _ (.tail _ (.head _))) (xsc (.tail _ (.tail _ (.tail _ (.head _)))) (xsc (.tail _ (.tail _ (.tail _ (.tail _ (.head _))))) (xsc (.tail _ (.head _)) (xsc (.head _) xsn))))) (show ([5, 3, 0, 1, 2] : List Nat).Nodup from by decide) (k_f_Law_type_20 O f d (f_Law_type_7 O f n) ih f v0 v1 v2 (0 : Int64) v2 M1)
def f_Law_type (O : Nat → Option va_E) (f : Nat) (v0 : Nat) (v1 : Nat) (M : xM) : Option (Unit × xM) :=
  (isO O M v0 12).bind fun _ =>
  xcl (f_Calendarhall_clearText O f v0 M) fun x1 M1 =>
  f_Law_type_7 O f f v0 v1 (0 : Int32) M1
set_option maxRecDepth 20000 in
theorem k_f_Law_type (O : Nat → Option va_E) (f d : Nat) (v0 : Nat) (v1 : Nat) (M : xM) : xZ oU O (d + 4) 59 0 [(0, .ref v0), (1, .ref v1)] [] M (f_Law_type O f v0 v1 M) := by
  unfold f_Law_type
  refine xZ.adv (me := xm59) hP_59 1 (pc' := 1) (lv' := [(0, .ref v0), (1, .ref v1)]) (st' := [.ref v0]) rfl ?_
  refine xZ.callv (κ := oI) (av := []) (rest := []) (st' := fun x1 => [.int x1]) (k0 := v0) (me := xm59) hP_59 rfl (Or.inl rfl) ⟨rfl, by decide⟩ rfl rfl (Nat.le_of_ble_eq_true rfl) (by decide) hP_60 (Nat.le_of_ble_eq_true rfl) (fun _ => rfl) (k_f_Calendarhall_clearText O f (d + 3) v0 M) (fun x1 M1 => ?_)
  refine xZ.adv (me := xm59) hP_59 3 (pc' := 7) (lv' := [(2, .int (0 : Int32)), (0, .ref v0), (1, .ref v1)]) (st' := []) rfl ?_
  exact xZ.sub (xsc (.tail _ (.head _)) (xsc (.tail _ (.tail _ (.head _))) (xsc (.head _) xsn))) (show ([2, 0, 1] : List Nat).Nodup from by decide) (k_f_Law_type_7 O f d f v0 v1 (0 : Int32) M1)
def f_Reader_signAt (O : Nat → Option va_E) (f : Nat) (v0 : Nat) (v1 : Int32) (M : xM) : Option (Int32 × xM) :=
  if v1 < 0 then (
    if xfit .char (.int (32 : Int32)) = true then some ((32 : Int32), M) else none
  ) else
  (gI O M v0 8 0).bind fun x1 =>
  if x1 ≤ v1 then (
    if xfit .char (.int (32 : Int32)) = true then some ((32 : Int32), M) else none
  ) else
  (gR O M v0 8 2).bind fun x2 =>
  (aN O M x2).bind fun x3 =>
  if x3 ≤ v1 then (
    if xfit .char (.int (32 : Int32)) = true then some ((32 : Int32), M) else none
  ) else
  (gR O M v0 8 2).bind fun x4 =>
  (aC O M x4 v1).bind fun x5 =>
  if xfit .char (.int x5) = true then some (x5, M) else none
set_option maxRecDepth 20000 in
theorem k_f_Reader_signAt (O : Nat → Option va_E) (f d : Nat) (v0 : Nat) (v1 : Int32) (M : xM) : xZ oI O (d + 0) 66 0 [(0, .ref v0), (1, .int v1)] [] M (f_Reader_signAt O f v0 v1 M) := by
  unfold f_Reader_signAt
  refine xZ.adv (me := xm66) hP_66 1 (pc' := 1) (lv' := [(0, .ref v0), (1, .int v1)]) (st' := [.int v1]) rfl ?_
  refine xZ.if_lt (me := xm66) hP_66 rfl (fun h1 => ?_) (fun h1 => ?_)
  · skip
    refine xZ.adv (me := xm66) hP_66 1 (pc' := 32) (lv' := [(0, .ref v0), (1, .int v1)]) (st' := [.int (32 : Int32)]) rfl ?_
    exact xZ.retf (me := xm66) hP_66 rfl rfl
  · skip
    refine xZ.adv (me := xm66) hP_66 2 (pc' := 6) (lv' := [(0, .ref v0), (1, .int v1)]) (st' := [.ref v0, .int v1]) rfl ?_
    refine xZ.k_gI (me := xm66) hP_66 rfl (fun x1 => ?_)
    refine xZ.ic_ge (me := xm66) hP_66 rfl (fun h2 => ?_) (fun h2 => ?_)
    · skip
      refine xZ.adv (me := xm66) hP_66 1 (pc' := 32) (lv' := [(0, .ref v0), (1, .int v1)]) (st' := [.int (32 : Int32)]) rfl ?_
      exact xZ.retf (me := xm66) hP_66 rfl rfl
    · skip
      refine xZ.adv (me := xm66) hP_66 2 (pc' := 14) (lv' := [(0, .ref v0), (1, .int v1)]) (st' := [.ref v0, .int v1]) rfl ?_
      refine xZ.k_gR (me := xm66) hP_66 rfl (fun x2 => ?_)
      refine xZ.k_aN (me := xm66) hP_66 rfl (fun x3 => ?_)
      refine xZ.ic_ge (me := xm66) hP_66 rfl (fun h3 => ?_) (fun h3 => ?_)
      · skip
        refine xZ.adv (me := xm66) hP_66 1 (pc' := 32) (lv' := [(0, .ref v0), (1, .int v1)]) (st' := [.int (32 : Int32)]) rfl ?_
        exact xZ.retf (me := xm66) hP_66 rfl rfl
      · skip
        refine xZ.adv (me := xm66) hP_66 1 (pc' := 22) (lv' := [(0, .ref v0), (1, .int v1)]) (st' := [.ref v0]) rfl ?_
        refine xZ.k_gR (me := xm66) hP_66 rfl (fun x4 => ?_)
        refine xZ.adv (me := xm66) hP_66 1 (pc' := 26) (lv' := [(0, .ref v0), (1, .int v1)]) (st' := [.int v1, .ref x4]) rfl ?_
        refine xZ.k_aC (me := xm66) hP_66 rfl (fun x5 => ?_)
        refine xZ.adv (me := xm66) hP_66 1 (pc' := 32) (lv' := [(0, .ref v0), (1, .int v1)]) (st' := [.int x5]) rfl ?_
        exact xZ.retf (me := xm66) hP_66 rfl rfl
def f_Reader_goOn_188 (O : Nat → Option va_E) (f : Nat) : Nat → Nat → xM → Option (Unit × xM)
  | 0, _, _ => none
  | n + 1, v0, M =>
    (gI O M v0 8 5).bind fun x1 =>
    if x1 = (1 : Int32) then (
      (gI O M v0 8 4).bind fun x2 =>
      (gI O M v0 8 0).bind fun x3 =>
      if x3 ≤ x2 then (
        some ((), M)
      ) else
      (gI O M v0 8 4).bind fun x4 =>
      (isO O M v0 8).bind fun _ =>
      xcl (f_Reader_signAt O f v0 x4 M) fun x5 M1 =>
      if x5 < (48 : Int32) then (
        some ((), M1)
      ) else
      (gI O M1 v0 8 4).bind fun x6 =>
      (isO O M1 v0 8).bind fun _ =>
      xcl (f_Reader_signAt O f v0 x6 M1) fun x7 M2 =>
      if (57 : Int32) < x7 then (
        some ((), M2)
      ) else
      (gI O M2 v0 8 6).bind fun x8 =>
      (gI O M2 v0 8 4).bind fun x9 =>
      (isO O M2 v0 8).bind fun _ =>
      xcl (f_Reader_signAt O f v0 x9 M2) fun x10 M3 =>
      xcl (f_Math_min O f (((x8 * (10 : Int32)) + x10) - (48 : Int32)) (1000000 : Int32) M3) fun x11 M4 =>
      (pI M4 v0 8 6 x11).bind fun M5 =>
      (gI O M5 v0 8 4).bind fun x12 =>
      (pI M5 v0 8 4 (x12 + (1 : Int32))).bind fun M6 =>
      f_Reader_goOn_188 O f n v0 M6
    ) else
    some ((), M)
set_option maxRecDepth 20000 in
theorem k_f_Reader_goOn_188 (O : Nat → Option va_E) (f d : Nat) : ∀ (n : Nat) (v0 : Nat) (M : xM), xZ oU O (d + 1) 65 188 [(0, .ref v0)] [] M (f_Reader_goOn_188 O f n v0 M) := by
  intro n
  induction n with
  | zero =>
    intro v0 M
    exact xZ.no
  | succ n ih =>
    intro v0 M
    unfold f_Reader_goOn_188
    refine xZ.adv (me := xm65) hP_65 1 (pc' := 189) (lv' := [(0, .ref v0)]) (st' := [.ref v0]) rfl ?_
    refine xZ.k_gI (me := xm65) hP_65 rfl (fun x1 => ?_)
    refine xZ.adv (me := xm65) hP_65 1 (pc' := 193) (lv' := [(0, .ref v0)]) (st' := [.int (1 : Int32), .int x1]) rfl ?_
    refine xZ.ic_ne (me := xm65) hP_65 rfl (fun h1 => ?_) (fun h1 => ?_)
    · skip
      refine xZ.adv (me := xm65) hP_65 1 (pc' := 197) (lv' := [(0, .ref v0)]) (st' := [.ref v0]) rfl ?_
      refine xZ.k_gI (me := xm65) hP_65 rfl (fun x2 => ?_)
      refine xZ.adv (me := xm65) hP_65 1 (pc' := 201) (lv' := [(0, .ref v0)]) (st' := [.ref v0, .int x2]) rfl ?_
      refine xZ.k_gI (me := xm65) hP_65 rfl (fun x3 => ?_)
      refine xZ.ic_ge (me := xm65) hP_65 rfl (fun h2 => ?_) (fun h2 => ?_)
      · skip
        exact xZ.retu (me := xm65) hP_65 rfl rfl
      · skip
        refine xZ.adv (me := xm65) hP_65 2 (pc' := 209) (lv' := [(0, .ref v0)]) (st' := [.ref v0, .ref v0]) rfl ?_
        refine xZ.k_gI (me := xm65) hP_65 rfl (fun x4 => ?_)
        refine xZ.callv (κ := oI) (av := [.int x4]) (rest := []) (st' := fun x5 => [.int x5]) (k0 := v0) (me := xm65) hP_65 rfl (Or.inl rfl) ⟨rfl, by decide⟩ rfl rfl (Nat.le_of_ble_eq_true rfl) (by decide) hP_66 (Nat.le_of_ble_eq_true rfl) (fun _ => rfl) (k_f_Reader_signAt O f (d + 0) v0 x4 M) (fun x5 M1 => ?_)
        refine xZ.adv (me := xm65) hP_65 1 (pc' := 217) (lv' := [(0, .ref v0)]) (st' := [.int (48 : Int32), .int x5]) rfl ?_
        refine xZ.ic_lt (me := xm65) hP_65 rfl (fun h3 => ?_) (fun h3 => ?_)
        · skip
          exact xZ.retu (me := xm65) hP_65 rfl rfl
        · skip
          refine xZ.adv (me := xm65) hP_65 2 (pc' := 222) (lv' := [(0, .ref v0)]) (st' := [.ref v0, .ref v0]) rfl ?_
          refine xZ.k_gI (me := xm65) hP_65 rfl (fun x6 => ?_)
          refine xZ.callv (κ := oI) (av := [.int x6]) (rest := []) (st' := fun x7 => [.int x7]) (k0 := v0) (me := xm65) hP_65 rfl (Or.inl rfl) ⟨rfl, by decide⟩ rfl rfl (Nat.le_of_ble_eq_true rfl) (by decide) hP_66 (Nat.le_of_ble_eq_true rfl) (fun _ => rfl) (k_f_Reader_signAt O f (d + 0) v0 x6 M1) (fun x7 M2 => ?_)
          refine xZ.adv (me := xm65) hP_65 1 (pc' := 230) (lv' := [(0, .ref v0)]) (st' := [.int (57 : Int32), .int x7]) rfl ?_
          refine xZ.ic_gt (me := xm65) hP_65 rfl (fun h4 => ?_) (fun h4 => ?_)
          · skip
            exact xZ.retu (me := xm65) hP_65 rfl rfl
          · skip
            refine xZ.adv (me := xm65) hP_65 2 (pc' := 235) (lv' := [(0, .ref v0)]) (st' := [.ref v0, .ref v0]) rfl ?_
            refine xZ.k_gI (me := xm65) hP_65 rfl (fun x8 => ?_)
            refine xZ.adv (me := xm65) hP_65 4 (pc' := 243) (lv' := [(0, .ref v0)]) (st' := [.ref v0, .ref v0, .int (x8 * (10 : Int32)), .ref v0]) rfl ?_
            refine xZ.k_gI (me := xm65) hP_65 rfl (fun x9 => ?_)
            refine xZ.callv (κ := oI) (av := [.int x9]) (rest := [.int (x8 * (10 : Int32)), .ref v0]) (st' := fun x10 => [.int x10, .int (x8 * (10 : Int32)), .ref v0]) (k0 := v0) (me := xm65) hP_65 rfl (Or.inl rfl) ⟨rfl, by decide⟩ rfl rfl (Nat.le_of_ble_eq_true rfl) (by decide) hP_66 (Nat.le_of_ble_eq_true rfl) (fun _ => rfl) (k_f_Reader_signAt O f (d + 0) v0 x9 M2) (fun x10 M3 => ?_)
            refine xZ.adv (me := xm65) hP_65 4 (pc' := 255) (lv' := [(0, .ref v0)]) (st' := [.int (1000000 : Int32), .int (((x8 * (10 : Int32)) + x10) - (48 : Int32)), .ref v0]) rfl ?_
            refine xZ.calls (κ := oI) (av := [.int (((x8 * (10 : Int32)) + x10) - (48 : Int32)), .int (1000000 : Int32)]) (rest := [.ref v0]) (st' := fun x11 => [.int x11, .ref v0]) (me := xm65) hP_65 rfl rfl rfl (Nat.le_of_ble_eq_true rfl) (by decide) hP_248 (Nat.le_of_ble_eq_true rfl) (fun _ => rfl) (k_f_Math_min O f (d + 0) (((x8 * (10 : Int32)) + x10) - (48 : Int32)) (1000000 : Int32) M3) (fun x11 M4 => ?_)
            refine xZ.k_pI (me := xm65) hP_65 rfl (fun M5 => ?_)
            refine xZ.adv (me := xm65) hP_65 2 (pc' := 263) (lv' := [(0, .ref v0)]) (st' := [.ref v0, .ref v0]) rfl ?_
            refine xZ.k_gI (me := xm65) hP_65 rfl (fun x12 => ?_)
            refine xZ.adv (me := xm65) hP_65 2 (pc' := 268) (lv' := [(0, .ref v0)]) (st' := [.int (x12 + (1 : Int32)), .ref v0]) rfl ?_
            refine xZ.k_pI (me := xm65) hP_65 rfl (fun M6 => ?_)
            refine xZ.adv (me := xm65) hP_65 1 (pc' := 188) (lv' := [(0, .ref v0)]) (st' := []) rfl ?_
            exact (ih v0 M6)
    · skip
      exact xZ.retu (me := xm65) hP_65 rfl rfl
def f_Reader_goOn_131 (O : Nat → Option va_E) (f : Nat) : Nat → Nat → xM → Option (Unit × xM)
  | 0, _, _ => none
  | n + 1, v0, M =>
    (gI O M v0 8 5).bind fun x1 =>
    if x1 = 0 then (
      (gI O M v0 8 4).bind fun x2 =>
      (gI O M v0 8 0).bind fun x3 =>
      if x3 ≤ x2 then (
        f_Reader_goOn_188 O f f v0 M
      ) else
      (gI O M v0 8 4).bind fun x4 =>
      (isO O M v0 8).bind fun _ =>
      xcl (f_Reader_signAt O f v0 x4 M) fun x5 M1 =>
      if x5 < (97 : Int32) then (
        f_Reader_goOn_188 O f f v0 M1
      ) else
      (gI O M1 v0 8 4).bind fun x6 =>
      (isO O M1 v0 8).bind fun _ =>
      xcl (f_Reader_signAt O f v0 x6 M1) fun x7 M2 =>
      if (122 : Int32) < x7 then (
        f_Reader_goOn_188 O f f v0 M2
      ) else
      (gI O M2 v0 8 4).bind fun x8 =>
      (pI M2 v0 8 4 (x8 + (1 : Int32))).bind fun M3 =>
      f_Reader_goOn_131 O f n v0 M3
    ) else
    f_Reader_goOn_188 O f f v0 M
set_option maxRecDepth 20000 in
theorem k_f_Reader_goOn_131 (O : Nat → Option va_E) (f d : Nat) : ∀ (n : Nat) (v0 : Nat) (M : xM), xZ oU O (d + 1) 65 131 [(0, .ref v0)] [] M (f_Reader_goOn_131 O f n v0 M) := by
  intro n
  induction n with
  | zero =>
    intro v0 M
    exact xZ.no
  | succ n ih =>
    intro v0 M
    unfold f_Reader_goOn_131
    refine xZ.adv (me := xm65) hP_65 1 (pc' := 132) (lv' := [(0, .ref v0)]) (st' := [.ref v0]) rfl ?_
    refine xZ.k_gI (me := xm65) hP_65 rfl (fun x1 => ?_)
    refine xZ.if_ne (me := xm65) hP_65 rfl (fun h1 => ?_) (fun h1 => ?_)
    · skip
      refine xZ.adv (me := xm65) hP_65 1 (pc' := 139) (lv' := [(0, .ref v0)]) (st' := [.ref v0]) rfl ?_
      refine xZ.k_gI (me := xm65) hP_65 rfl (fun x2 => ?_)
      refine xZ.adv (me := xm65) hP_65 1 (pc' := 143) (lv' := [(0, .ref v0)]) (st' := [.ref v0, .int x2]) rfl ?_
      refine xZ.k_gI (me := xm65) hP_65 rfl (fun x3 => ?_)
      refine xZ.ic_ge (me := xm65) hP_65 rfl (fun h2 => ?_) (fun h2 => ?_)
      · skip
        exact (k_f_Reader_goOn_188 O f d f v0 M)
      · skip
        refine xZ.adv (me := xm65) hP_65 2 (pc' := 151) (lv' := [(0, .ref v0)]) (st' := [.ref v0, .ref v0]) rfl ?_
        refine xZ.k_gI (me := xm65) hP_65 rfl (fun x4 => ?_)
        refine xZ.callv (κ := oI) (av := [.int x4]) (rest := []) (st' := fun x5 => [.int x5]) (k0 := v0) (me := xm65) hP_65 rfl (Or.inl rfl) ⟨rfl, by decide⟩ rfl rfl (Nat.le_of_ble_eq_true rfl) (by decide) hP_66 (Nat.le_of_ble_eq_true rfl) (fun _ => rfl) (k_f_Reader_signAt O f (d + 0) v0 x4 M) (fun x5 M1 => ?_)
        refine xZ.adv (me := xm65) hP_65 1 (pc' := 159) (lv' := [(0, .ref v0)]) (st' := [.int (97 : Int32), .int x5]) rfl ?_
        refine xZ.ic_lt (me := xm65) hP_65 rfl (fun h3 => ?_) (fun h3 => ?_)
        · skip
          exact (k_f_Reader_goOn_188 O f d f v0 M1)
        · skip
          refine xZ.adv (me := xm65) hP_65 2 (pc' := 164) (lv' := [(0, .ref v0)]) (st' := [.ref v0, .ref v0]) rfl ?_
          refine xZ.k_gI (me := xm65) hP_65 rfl (fun x6 => ?_)
          refine xZ.callv (κ := oI) (av := [.int x6]) (rest := []) (st' := fun x7 => [.int x7]) (k0 := v0) (me := xm65) hP_65 rfl (Or.inl rfl) ⟨rfl, by decide⟩ rfl rfl (Nat.le_of_ble_eq_true rfl) (by decide) hP_66 (Nat.le_of_ble_eq_true rfl) (fun _ => rfl) (k_f_Reader_signAt O f (d + 0) v0 x6 M1) (fun x7 M2 => ?_)
          refine xZ.adv (me := xm65) hP_65 1 (pc' := 172) (lv' := [(0, .ref v0)]) (st' := [.int (122 : Int32), .int x7]) rfl ?_
          refine xZ.ic_gt (me := xm65) hP_65 rfl (fun h4 => ?_) (fun h4 => ?_)
          · skip
            exact (k_f_Reader_goOn_188 O f d f v0 M2)
          · skip
            refine xZ.adv (me := xm65) hP_65 2 (pc' := 177) (lv' := [(0, .ref v0)]) (st' := [.ref v0, .ref v0]) rfl ?_
            refine xZ.k_gI (me := xm65) hP_65 rfl (fun x8 => ?_)
            refine xZ.adv (me := xm65) hP_65 2 (pc' := 182) (lv' := [(0, .ref v0)]) (st' := [.int (x8 + (1 : Int32)), .ref v0]) rfl ?_
            refine xZ.k_pI (me := xm65) hP_65 rfl (fun M3 => ?_)
            refine xZ.adv (me := xm65) hP_65 1 (pc' := 131) (lv' := [(0, .ref v0)]) (st' := []) rfl ?_
            exact (ih v0 M3)
    · skip
      exact (k_f_Reader_goOn_188 O f d f v0 M)
def f_Reader_goOn_126 (O : Nat → Option va_E) (f : Nat) (v0 : Nat) (M : xM) : Option (Unit × xM) :=
  (pI M v0 8 5 (2 : Int32)).bind fun M1 =>
  f_Reader_goOn_131 O f f v0 M1
set_option maxRecDepth 20000 in
theorem k_f_Reader_goOn_126 (O : Nat → Option va_E) (f d : Nat) (v0 : Nat) (M : xM) : xZ oU O (d + 1) 65 126 [(0, .ref v0)] [] M (f_Reader_goOn_126 O f v0 M) := by
  unfold f_Reader_goOn_126
  refine xZ.adv (me := xm65) hP_65 2 (pc' := 128) (lv' := [(0, .ref v0)]) (st' := [.int (2 : Int32), .ref v0]) rfl ?_
  refine xZ.k_pI (me := xm65) hP_65 rfl (fun M1 => ?_)
  exact (k_f_Reader_goOn_131 O f d f v0 M1)
def f_Reader_goOn_106 (O : Nat → Option va_E) (f : Nat) (v0 : Nat) (v1 : Int32) (M : xM) : Option (Unit × xM) :=
  if v1 < (48 : Int32) then (
    f_Reader_goOn_126 O f v0 M
  ) else
  if (57 : Int32) < v1 then (
    f_Reader_goOn_126 O f v0 M
  ) else
  (pI M v0 8 5 (1 : Int32)).bind fun M1 =>
  f_Reader_goOn_131 O f f v0 M1
set_option maxRecDepth 20000 in
theorem k_f_Reader_goOn_106 (O : Nat → Option va_E) (f d : Nat) (v0 : Nat) (v1 : Int32) (M : xM) : xZ oU O (d + 1) 65 106 [(0, .ref v0), (1, .int v1)] [] M (f_Reader_goOn_106 O f v0 v1 M) := by
  unfold f_Reader_goOn_106
  refine xZ.adv (me := xm65) hP_65 2 (pc' := 109) (lv' := [(0, .ref v0), (1, .int v1)]) (st' := [.int (48 : Int32), .int v1]) rfl ?_
  refine xZ.ic_lt (me := xm65) hP_65 rfl (fun h1 => ?_) (fun h1 => ?_)
  · skip
    exact xZ.sub (xsc (.head _) xsn) (show ([0, 1] : List Nat).Nodup from by decide) (k_f_Reader_goOn_126 O f d v0 M)
  · skip
    refine xZ.adv (me := xm65) hP_65 2 (pc' := 115) (lv' := [(0, .ref v0), (1, .int v1)]) (st' := [.int (57 : Int32), .int v1]) rfl ?_
    refine xZ.ic_gt (me := xm65) hP_65 rfl (fun h2 => ?_) (fun h2 => ?_)
    · skip
      exact xZ.sub (xsc (.head _) xsn) (show ([0, 1] : List Nat).Nodup from by decide) (k_f_Reader_goOn_126 O f d v0 M)
    · skip
      refine xZ.adv (me := xm65) hP_65 2 (pc' := 120) (lv' := [(0, .ref v0), (1, .int v1)]) (st' := [.int (1 : Int32), .ref v0]) rfl ?_
      refine xZ.k_pI (me := xm65) hP_65 rfl (fun M1 => ?_)
      refine xZ.adv (me := xm65) hP_65 1 (pc' := 131) (lv' := [(0, .ref v0), (1, .int v1)]) (st' := []) rfl ?_
      exact xZ.sub (xsc (.head _) xsn) (show ([0, 1] : List Nat).Nodup from by decide) (k_f_Reader_goOn_131 O f d f v0 M1)
def f_Reader_goOn_45 (O : Nat → Option va_E) (f : Nat) (v0 : Nat) (M : xM) : Option (Unit × xM) :=
  (gI O M v0 8 3).bind fun x1 =>
  (pI M v0 8 4 x1).bind fun M1 =>
  (pI M1 v0 8 6 (0 : Int32)).bind fun M2 =>
  (gI O M2 v0 8 3).bind fun x2 =>
  (isO O M2 v0 8).bind fun _ =>
  xcl (f_Reader_signAt O f v0 x2 M2) fun x3 M3 =>
  (gI O M3 v0 8 3).bind fun x4 =>
  (gI O M3 v0 8 0).bind fun x5 =>
  if x4 < x5 then (
    if x3 < (97 : Int32) then (
      f_Reader_goOn_106 O f v0 x3 M3
    ) else
    if (122 : Int32) < x3 then (
      f_Reader_goOn_106 O f v0 x3 M3
    ) else
    (pI M3 v0 8 5 (0 : Int32)).bind fun M4 =>
    f_Reader_goOn_131 O f f v0 M4
  ) else
  (pI M3 v0 8 5 (3 : Int32)).bind fun M5 =>
  f_Reader_goOn_131 O f f v0 M5
set_option maxRecDepth 20000 in
theorem k_f_Reader_goOn_45 (O : Nat → Option va_E) (f d : Nat) (v0 : Nat) (M : xM) : xZ oU O (d + 1) 65 45 [(0, .ref v0)] [] M (f_Reader_goOn_45 O f v0 M) := by
  unfold f_Reader_goOn_45
  refine xZ.adv (me := xm65) hP_65 2 (pc' := 47) (lv' := [(0, .ref v0)]) (st' := [.ref v0, .ref v0]) rfl ?_
  refine xZ.k_gI (me := xm65) hP_65 rfl (fun x1 => ?_)
  refine xZ.k_pI (me := xm65) hP_65 rfl (fun M1 => ?_)
  refine xZ.adv (me := xm65) hP_65 2 (pc' := 55) (lv' := [(0, .ref v0)]) (st' := [.int (0 : Int32), .ref v0]) rfl ?_
  refine xZ.k_pI (me := xm65) hP_65 rfl (fun M2 => ?_)
  refine xZ.adv (me := xm65) hP_65 2 (pc' := 60) (lv' := [(0, .ref v0)]) (st' := [.ref v0, .ref v0]) rfl ?_
  refine xZ.k_gI (me := xm65) hP_65 rfl (fun x2 => ?_)
  refine xZ.callv (κ := oI) (av := [.int x2]) (rest := []) (st' := fun x3 => [.int x3]) (k0 := v0) (me := xm65) hP_65 rfl (Or.inl rfl) ⟨rfl, by decide⟩ rfl rfl (Nat.le_of_ble_eq_true rfl) (by decide) hP_66 (Nat.le_of_ble_eq_true rfl) (fun _ => rfl) (k_f_Reader_signAt O f (d + 0) v0 x2 M2) (fun x3 M3 => ?_)
  refine xZ.adv (me := xm65) hP_65 2 (pc' := 68) (lv' := [(1, .int x3), (0, .ref v0)]) (st' := [.ref v0]) rfl ?_
  refine xZ.k_gI (me := xm65) hP_65 rfl (fun x4 => ?_)
  refine xZ.adv (me := xm65) hP_65 1 (pc' := 72) (lv' := [(1, .int x3), (0, .ref v0)]) (st' := [.ref v0, .int x4]) rfl ?_
  refine xZ.k_gI (me := xm65) hP_65 rfl (fun x5 => ?_)
  refine xZ.ic_lt (me := xm65) hP_65 rfl (fun h1 => ?_) (fun h1 => ?_)
  · skip
    refine xZ.adv (me := xm65) hP_65 2 (pc' := 89) (lv' := [(1, .int x3), (0, .ref v0)]) (st' := [.int (97 : Int32), .int x3]) rfl ?_
    refine xZ.ic_lt (me := xm65) hP_65 rfl (fun h2 => ?_) (fun h2 => ?_)
    · skip
      exact xZ.sub (xsc (.tail _ (.head _)) (xsc (.head _) xsn)) (show ([1, 0] : List Nat).Nodup from by decide) (k_f_Reader_goOn_106 O f d v0 x3 M3)
    · skip
      refine xZ.adv (me := xm65) hP_65 2 (pc' := 95) (lv' := [(1, .int x3), (0, .ref v0)]) (st' := [.int (122 : Int32), .int x3]) rfl ?_
      refine xZ.ic_gt (me := xm65) hP_65 rfl (fun h3 => ?_) (fun h3 => ?_)
      · skip
        exact xZ.sub (xsc (.tail _ (.head _)) (xsc (.head _) xsn)) (show ([1, 0] : List Nat).Nodup from by decide) (k_f_Reader_goOn_106 O f d v0 x3 M3)
      · skip
        refine xZ.adv (me := xm65) hP_65 2 (pc' := 100) (lv' := [(1, .int x3), (0, .ref v0)]) (st' := [.int (0 : Int32), .ref v0]) rfl ?_
        refine xZ.k_pI (me := xm65) hP_65 rfl (fun M4 => ?_)
        refine xZ.adv (me := xm65) hP_65 1 (pc' := 131) (lv' := [(1, .int x3), (0, .ref v0)]) (st' := []) rfl ?_
        exact xZ.sub (xsc (.tail _ (.head _)) xsn) (show ([1, 0] : List Nat).Nodup from by decide) (k_f_Reader_goOn_131 O f d f v0 M4)
  · skip
    refine xZ.adv (me := xm65) hP_65 2 (pc' := 80) (lv' := [(1, .int x3), (0, .ref v0)]) (st' := [.int (3 : Int32), .ref v0]) rfl ?_
    refine xZ.k_pI (me := xm65) hP_65 rfl (fun M5 => ?_)
    refine xZ.adv (me := xm65) hP_65 1 (pc' := 131) (lv' := [(1, .int x3), (0, .ref v0)]) (st' := []) rfl ?_
    exact xZ.sub (xsc (.tail _ (.head _)) xsn) (show ([1, 0] : List Nat).Nodup from by decide) (k_f_Reader_goOn_131 O f d f v0 M5)
def f_Reader_goOn_8 (O : Nat → Option va_E) (f : Nat) : Nat → Nat → xM → Option (Unit × xM)
  | 0, _, _ => none
  | n + 1, v0, M =>
    (gI O M v0 8 3).bind fun x1 =>
    (gI O M v0 8 0).bind fun x2 =>
    if x2 ≤ x1 then (
      f_Reader_goOn_45 O f v0 M
    ) else
    (gI O M v0 8 3).bind fun x3 =>
    (isO O M v0 8).bind fun _ =>
    xcl (f_Reader_signAt O f v0 x3 M) fun x4 M1 =>
    if x4 = (32 : Int32) then (
      (gI O M1 v0 8 3).bind fun x5 =>
      (pI M1 v0 8 3 (x5 + (1 : Int32))).bind fun M2 =>
      f_Reader_goOn_8 O f n v0 M2
    ) else
    f_Reader_goOn_45 O f v0 M1
set_option maxRecDepth 20000 in
theorem k_f_Reader_goOn_8 (O : Nat → Option va_E) (f d : Nat) : ∀ (n : Nat) (v0 : Nat) (M : xM), xZ oU O (d + 1) 65 8 [(0, .ref v0)] [] M (f_Reader_goOn_8 O f n v0 M) := by
  intro n
  induction n with
  | zero =>
    intro v0 M
    exact xZ.no
  | succ n ih =>
    intro v0 M
    unfold f_Reader_goOn_8
    refine xZ.adv (me := xm65) hP_65 1 (pc' := 9) (lv' := [(0, .ref v0)]) (st' := [.ref v0]) rfl ?_
    refine xZ.k_gI (me := xm65) hP_65 rfl (fun x1 => ?_)
    refine xZ.adv (me := xm65) hP_65 1 (pc' := 13) (lv' := [(0, .ref v0)]) (st' := [.ref v0, .int x1]) rfl ?_
    refine xZ.k_gI (me := xm65) hP_65 rfl (fun x2 => ?_)
    refine xZ.ic_ge (me := xm65) hP_65 rfl (fun h1 => ?_) (fun h1 => ?_)
    · skip
      exact (k_f_Reader_goOn_45 O f d v0 M)
    · skip
      refine xZ.adv (me := xm65) hP_65 2 (pc' := 21) (lv' := [(0, .ref v0)]) (st' := [.ref v0, .ref v0]) rfl ?_
      refine xZ.k_gI (me := xm65) hP_65 rfl (fun x3 => ?_)
      refine xZ.callv (κ := oI) (av := [.int x3]) (rest := []) (st' := fun x4 => [.int x4]) (k0 := v0) (me := xm65) hP_65 rfl (Or.inl rfl) ⟨rfl, by decide⟩ rfl rfl (Nat.le_of_ble_eq_true rfl) (by decide) hP_66 (Nat.le_of_ble_eq_true rfl) (fun _ => rfl) (k_f_Reader_signAt O f (d + 0) v0 x3 M) (fun x4 M1 => ?_)
      refine xZ.adv (me := xm65) hP_65 1 (pc' := 29) (lv' := [(0, .ref v0)]) (st' := [.int (32 : Int32), .int x4]) rfl ?_
      refine xZ.ic_ne (me := xm65) hP_65 rfl (fun h2 => ?_) (fun h2 => ?_)
      · skip
        refine xZ.adv (me := xm65) hP_65 2 (pc' := 34) (lv' := [(0, .ref v0)]) (st' := [.ref v0, .ref v0]) rfl ?_
        refine xZ.k_gI (me := xm65) hP_65 rfl (fun x5 => ?_)
        refine xZ.adv (me := xm65) hP_65 2 (pc' := 39) (lv' := [(0, .ref v0)]) (st' := [.int (x5 + (1 : Int32)), .ref v0]) rfl ?_
        refine xZ.k_pI (me := xm65) hP_65 rfl (fun M2 => ?_)
        refine xZ.adv (me := xm65) hP_65 1 (pc' := 8) (lv' := [(0, .ref v0)]) (st' := []) rfl ?_
        exact (ih v0 M2)
      · skip
        exact (k_f_Reader_goOn_45 O f d v0 M1)
def f_Reader_goOn (O : Nat → Option va_E) (f : Nat) (v0 : Nat) (M : xM) : Option (Unit × xM) :=
  (gI O M v0 8 4).bind fun x1 =>
  (pI M v0 8 3 x1).bind fun M1 =>
  f_Reader_goOn_8 O f f v0 M1
set_option maxRecDepth 20000 in
theorem k_f_Reader_goOn (O : Nat → Option va_E) (f d : Nat) (v0 : Nat) (M : xM) : xZ oU O (d + 1) 65 0 [(0, .ref v0)] [] M (f_Reader_goOn O f v0 M) := by
  unfold f_Reader_goOn
  refine xZ.adv (me := xm65) hP_65 2 (pc' := 2) (lv' := [(0, .ref v0)]) (st' := [.ref v0, .ref v0]) rfl ?_
  refine xZ.k_gI (me := xm65) hP_65 rfl (fun x1 => ?_)
  refine xZ.k_pI (me := xm65) hP_65 rfl (fun M1 => ?_)
  exact (k_f_Reader_goOn_8 O f d f v0 M1)
def f_Reader_isWord_27 (O : Nat → Option va_E) (f : Nat) : Nat → Nat → Nat → Int32 → xM → Option (Int32 × xM)
  | 0, _, _, _, _ => none
  | n + 1, v0, v1, v2, M =>
    (isO O M v1 0).bind fun _ =>
    xcl (f_String_length O f v1 M) fun x1 M1 =>
    if x1 ≤ v2 then (
      some ((1 : Int32), M1)
    ) else
    (gI O M1 v0 8 3).bind fun x2 =>
    (isO O M1 v0 8).bind fun _ =>
    xcl (f_Reader_signAt O f v0 (x2 + v2) M1) fun x3 M2 =>
    (isO O M2 v1 0).bind fun _ =>
    xcl (f_String_charAt O f v1 v2 M2) fun x4 M3 =>
    if x3 = x4 then (
      f_Reader_isWord_27 O f n v0 v1 (v2 + (1 : Int32)) M3
    ) else
    some ((0 : Int32), M3)
set_option maxRecDepth 20000 in
theorem k_f_Reader_isWord_27 (O : Nat → Option va_E) (f d : Nat) : ∀ (n : Nat) (v0 : Nat) (v1 : Nat) (v2 : Int32) (M : xM), xZ oI O (d + 4) 69 27 [(0, .ref v0), (1, .ref v1), (2, .int v2)] [] M (f_Reader_isWord_27 O f n v0 v1 v2 M) := by
  intro n
  induction n with
  | zero =>
    intro v0 v1 v2 M
    exact xZ.no
  | succ n ih =>
    intro v0 v1 v2 M
    unfold f_Reader_isWord_27
    refine xZ.adv (me := xm69) hP_69 2 (pc' := 29) (lv' := [(0, .ref v0), (1, .ref v1), (2, .int v2)]) (st' := [.ref v1, .int v2]) rfl ?_
    refine xZ.callv (κ := oI) (av := []) (rest := [.int v2]) (st' := fun x1 => [.int x1, .int v2]) (k0 := v1) (me := xm69) hP_69 rfl (Or.inl rfl) ⟨rfl, by decide⟩ rfl rfl (Nat.le_of_ble_eq_true rfl) (by decide) hP_267 (Nat.le_of_ble_eq_true rfl) (fun _ => rfl) (k_f_String_length O f (d + 2) v1 M) (fun x1 M1 => ?_)
    refine xZ.ic_ge (me := xm69) hP_69 rfl (fun h1 => ?_) (fun h1 => ?_)
    · skip
      refine xZ.adv (me := xm69) hP_69 1 (pc' := 62) (lv' := [(0, .ref v0), (1, .ref v1), (2, .int v2)]) (st' := [.int (1 : Int32)]) rfl ?_
      exact xZ.rete (me := xm69) hP_69 rfl rfl rfl
    · skip
      refine xZ.adv (me := xm69) hP_69 2 (pc' := 37) (lv' := [(0, .ref v0), (1, .ref v1), (2, .int v2)]) (st' := [.ref v0, .ref v0]) rfl ?_
      refine xZ.k_gI (me := xm69) hP_69 rfl (fun x2 => ?_)
      refine xZ.adv (me := xm69) hP_69 2 (pc' := 42) (lv' := [(0, .ref v0), (1, .ref v1), (2, .int v2)]) (st' := [.int (x2 + v2), .ref v0]) rfl ?_
      refine xZ.callv (κ := oI) (av := [.int (x2 + v2)]) (rest := []) (st' := fun x3 => [.int x3]) (k0 := v0) (me := xm69) hP_69 rfl (Or.inl rfl) ⟨rfl, by decide⟩ rfl rfl (Nat.le_of_ble_eq_true rfl) (by decide) hP_66 (Nat.le_of_ble_eq_true rfl) (fun _ => rfl) (k_f_Reader_signAt O f (d + 3) v0 (x2 + v2) M1) (fun x3 M2 => ?_)
      refine xZ.adv (me := xm69) hP_69 2 (pc' := 47) (lv' := [(0, .ref v0), (1, .ref v1), (2, .int v2)]) (st' := [.int v2, .ref v1, .int x3]) rfl ?_
      refine xZ.callv (κ := oI) (av := [.int v2]) (rest := [.int x3]) (st' := fun x4 => [.int x4, .int x3]) (k0 := v1) (me := xm69) hP_69 rfl (Or.inl rfl) ⟨rfl, by decide⟩ rfl rfl (Nat.le_of_ble_eq_true rfl) (by decide) hP_289 (Nat.le_of_ble_eq_true rfl) (fun _ => rfl) (k_f_String_charAt O f (d + 0) v1 v2 M2) (fun x4 M3 => ?_)
      refine xZ.ic_eq (me := xm69) hP_69 rfl (fun h2 => ?_) (fun h2 => ?_)
      · skip
        refine xZ.adv (me := xm69) hP_69 2 (pc' := 27) (lv' := [(2, .int (v2 + (1 : Int32))), (0, .ref v0), (1, .ref v1)]) (st' := []) rfl ?_
        exact xZ.sub (xsc (.tail _ (.head _)) (xsc (.tail _ (.tail _ (.head _))) (xsc (.head _) xsn))) (show ([2, 0, 1] : List Nat).Nodup from by decide) (ih v0 v1 (v2 + (1 : Int32)) M3)
      · skip
        refine xZ.adv (me := xm69) hP_69 1 (pc' := 54) (lv' := [(0, .ref v0), (1, .ref v1), (2, .int v2)]) (st' := [.int (0 : Int32)]) rfl ?_
        exact xZ.rete (me := xm69) hP_69 rfl rfl rfl
def f_Reader_isWord (O : Nat → Option va_E) (f : Nat) (v0 : Nat) (v1 : Nat) (M : xM) : Option (Int32 × xM) :=
  (gI O M v0 8 5).bind fun x1 =>
  if x1 = 0 then (
    (gI O M v0 8 4).bind fun x2 =>
    (gI O M v0 8 3).bind fun x3 =>
    (isO O M v1 0).bind fun _ =>
    xcl (f_String_length O f v1 M) fun x4 M1 =>
    if (x2 - x3) = x4 then (
      f_Reader_isWord_27 O f f v0 v1 (0 : Int32) M1
    ) else
    some ((0 : Int32), M1)
  ) else
  some ((0 : Int32), M)
set_option maxRecDepth 20000 in
theorem k_f_Reader_isWord (O : Nat → Option va_E) (f d : Nat) (v0 : Nat) (v1 : Nat) (M : xM) : xZ oI O (d + 4) 69 0 [(0, .ref v0), (1, .ref v1)] [] M (f_Reader_isWord O f v0 v1 M) := by
  unfold f_Reader_isWord
  refine xZ.adv (me := xm69) hP_69 1 (pc' := 1) (lv' := [(0, .ref v0), (1, .ref v1)]) (st' := [.ref v0]) rfl ?_
  refine xZ.k_gI (me := xm69) hP_69 rfl (fun x1 => ?_)
  refine xZ.if_ne (me := xm69) hP_69 rfl (fun h1 => ?_) (fun h1 => ?_)
  · skip
    refine xZ.adv (me := xm69) hP_69 1 (pc' := 8) (lv' := [(0, .ref v0), (1, .ref v1)]) (st' := [.ref v0]) rfl ?_
    refine xZ.k_gI (me := xm69) hP_69 rfl (fun x2 => ?_)
    refine xZ.adv (me := xm69) hP_69 1 (pc' := 12) (lv' := [(0, .ref v0), (1, .ref v1)]) (st' := [.ref v0, .int x2]) rfl ?_
    refine xZ.k_gI (me := xm69) hP_69 rfl (fun x3 => ?_)
    refine xZ.adv (me := xm69) hP_69 2 (pc' := 17) (lv' := [(0, .ref v0), (1, .ref v1)]) (st' := [.ref v1, .int (x2 - x3)]) rfl ?_
    refine xZ.callv (κ := oI) (av := []) (rest := [.int (x2 - x3)]) (st' := fun x4 => [.int x4, .int (x2 - x3)]) (k0 := v1) (me := xm69) hP_69 rfl (Or.inl rfl) ⟨rfl, by decide⟩ rfl rfl (Nat.le_of_ble_eq_true rfl) (by decide) hP_267 (Nat.le_of_ble_eq_true rfl) (fun _ => rfl) (k_f_String_length O f (d + 2) v1 M) (fun x4 M1 => ?_)
    refine xZ.ic_eq (me := xm69) hP_69 rfl (fun h2 => ?_) (fun h2 => ?_)
    · skip
      refine xZ.adv (me := xm69) hP_69 2 (pc' := 27) (lv' := [(2, .int (0 : Int32)), (0, .ref v0), (1, .ref v1)]) (st' := []) rfl ?_
      exact xZ.sub (xsc (.tail _ (.head _)) (xsc (.tail _ (.tail _ (.head _))) (xsc (.head _) xsn))) (show ([2, 0, 1] : List Nat).Nodup from by decide) (k_f_Reader_isWord_27 O f d f v0 v1 (0 : Int32) M1)
    · skip
      refine xZ.adv (me := xm69) hP_69 1 (pc' := 24) (lv' := [(0, .ref v0), (1, .ref v1)]) (st' := [.int (0 : Int32)]) rfl ?_
      exact xZ.rete (me := xm69) hP_69 rfl rfl rfl
  · skip
    refine xZ.adv (me := xm69) hP_69 1 (pc' := 24) (lv' := [(0, .ref v0), (1, .ref v1)]) (st' := [.int (0 : Int32)]) rfl ?_
    exact xZ.rete (me := xm69) hP_69 rfl rfl rfl
def f_Reader_takes (O : Nat → Option va_E) (f : Nat) (v0 : Nat) (v1 : Nat) (M : xM) : Option (Int32 × xM) :=
  (isO O M v0 8).bind fun _ =>
  xcl (f_Reader_isWord O f v0 v1 M) fun x1 M1 =>
  if x1 = 0 then (
    some ((0 : Int32), M1)
  ) else
  (isO O M1 v0 8).bind fun _ =>
  xcl (f_Reader_goOn O f v0 M1) fun _ M2 =>
  some ((1 : Int32), M2)
set_option maxRecDepth 20000 in
theorem k_f_Reader_takes (O : Nat → Option va_E) (f d : Nat) (v0 : Nat) (v1 : Nat) (M : xM) : xZ oI O (d + 5) 68 0 [(0, .ref v0), (1, .ref v1)] [] M (f_Reader_takes O f v0 v1 M) := by
  unfold f_Reader_takes
  refine xZ.adv (me := xm68) hP_68 2 (pc' := 2) (lv' := [(0, .ref v0), (1, .ref v1)]) (st' := [.ref v1, .ref v0]) rfl ?_
  refine xZ.callv (κ := oI) (av := [.ref v1]) (rest := []) (st' := fun x1 => [.int x1]) (k0 := v0) (me := xm68) hP_68 rfl (Or.inl rfl) ⟨rfl, by decide⟩ rfl rfl (Nat.le_of_ble_eq_true rfl) (by decide) hP_69 (Nat.le_of_ble_eq_true rfl) (fun _ => rfl) (k_f_Reader_isWord O f (d + 0) v0 v1 M) (fun x1 M1 => ?_)
  refine xZ.if_ne (me := xm68) hP_68 rfl (fun h1 => ?_) (fun h1 => ?_)
  · skip
    refine xZ.adv (me := xm68) hP_68 1 (pc' := 9) (lv' := [(0, .ref v0), (1, .ref v1)]) (st' := [.int (0 : Int32)]) rfl ?_
    exact xZ.rete (me := xm68) hP_68 rfl rfl rfl
  · skip
    refine xZ.adv (me := xm68) hP_68 1 (pc' := 11) (lv' := [(0, .ref v0), (1, .ref v1)]) (st' := [.ref v0]) rfl ?_
    refine xZ.callv (κ := oU) (av := []) (rest := []) (st' := fun _ => []) (k0 := v0) (me := xm68) hP_68 rfl (Or.inl rfl) ⟨rfl, by decide⟩ rfl rfl (Nat.le_of_ble_eq_true rfl) (by decide) hP_65 (Nat.le_of_ble_eq_true rfl) (fun _ => rfl) (k_f_Reader_goOn O f (d + 3) v0 M1) (fun _ M2 => ?_)
    refine xZ.adv (me := xm68) hP_68 1 (pc' := 15) (lv' := [(0, .ref v0), (1, .ref v1)]) (st' := [.int (1 : Int32)]) rfl ?_
    exact xZ.rete (me := xm68) hP_68 rfl rfl rfl
def f_Reader_isNumber (O : Nat → Option va_E) (f : Nat) (v0 : Nat) (v1 : Int32) (v2 : Int32) (M : xM) : Option (Int32 × xM) :=
  (gI O M v0 8 5).bind fun x1 =>
  if x1 = (1 : Int32) then (
    (gI O M v0 8 6).bind fun x2 =>
    if x2 < v1 then (
      some ((0 : Int32), M)
    ) else
    (gI O M v0 8 6).bind fun x3 =>
    if v2 < x3 then (
      some ((0 : Int32), M)
    ) else
    some ((1 : Int32), M)
  ) else
  some ((0 : Int32), M)
set_option maxRecDepth 20000 in
theorem k_f_Reader_isNumber (O : Nat → Option va_E) (f d : Nat) (v0 : Nat) (v1 : Int32) (v2 : Int32) (M : xM) : xZ oI O (d + 0) 70 0 [(0, .ref v0), (1, .int v1), (2, .int v2)] [] M (f_Reader_isNumber O f v0 v1 v2 M) := by
  unfold f_Reader_isNumber
  refine xZ.adv (me := xm70) hP_70 1 (pc' := 1) (lv' := [(0, .ref v0), (1, .int v1), (2, .int v2)]) (st' := [.ref v0]) rfl ?_
  refine xZ.k_gI (me := xm70) hP_70 rfl (fun x1 => ?_)
  refine xZ.adv (me := xm70) hP_70 1 (pc' := 5) (lv' := [(0, .ref v0), (1, .int v1), (2, .int v2)]) (st' := [.int (1 : Int32), .int x1]) rfl ?_
  refine xZ.ic_ne (me := xm70) hP_70 rfl (fun h1 => ?_) (fun h1 => ?_)
  · skip
    refine xZ.adv (me := xm70) hP_70 1 (pc' := 9) (lv' := [(0, .ref v0), (1, .int v1), (2, .int v2)]) (st' := [.ref v0]) rfl ?_
    refine xZ.k_gI (me := xm70) hP_70 rfl (fun x2 => ?_)
    refine xZ.adv (me := xm70) hP_70 1 (pc' := 13) (lv' := [(0, .ref v0), (1, .int v1), (2, .int v2)]) (st' := [.int v1, .int x2]) rfl ?_
    refine xZ.ic_lt (me := xm70) hP_70 rfl (fun h2 => ?_) (fun h2 => ?_)
    · skip
      refine xZ.adv (me := xm70) hP_70 1 (pc' := 29) (lv' := [(0, .ref v0), (1, .int v1), (2, .int v2)]) (st' := [.int (0 : Int32)]) rfl ?_
      exact xZ.rete (me := xm70) hP_70 rfl rfl rfl
    · skip
      refine xZ.adv (me := xm70) hP_70 1 (pc' := 17) (lv' := [(0, .ref v0), (1, .int v1), (2, .int v2)]) (st' := [.ref v0]) rfl ?_
      refine xZ.k_gI (me := xm70) hP_70 rfl (fun x3 => ?_)
      refine xZ.adv (me := xm70) hP_70 1 (pc' := 21) (lv' := [(0, .ref v0), (1, .int v1), (2, .int v2)]) (st' := [.int v2, .int x3]) rfl ?_
      refine xZ.ic_gt (me := xm70) hP_70 rfl (fun h3 => ?_) (fun h3 => ?_)
      · skip
        refine xZ.adv (me := xm70) hP_70 1 (pc' := 29) (lv' := [(0, .ref v0), (1, .int v1), (2, .int v2)]) (st' := [.int (0 : Int32)]) rfl ?_
        exact xZ.rete (me := xm70) hP_70 rfl rfl rfl
      · skip
        refine xZ.adv (me := xm70) hP_70 2 (pc' := 29) (lv' := [(0, .ref v0), (1, .int v1), (2, .int v2)]) (st' := [.int (1 : Int32)]) rfl ?_
        exact xZ.rete (me := xm70) hP_70 rfl rfl rfl
  · skip
    refine xZ.adv (me := xm70) hP_70 1 (pc' := 29) (lv' := [(0, .ref v0), (1, .int v1), (2, .int v2)]) (st' := [.int (0 : Int32)]) rfl ?_
    exact xZ.rete (me := xm70) hP_70 rfl rfl rfl
def f_Reader_dayName_24 (O : Nat → Option va_E) (f : Nat) : Nat → Nat → Int32 → xM → Option (Int32 × xM)
  | 0, _, _, _ => none
  | n + 1, v0, v1, M =>
    if (7 : Int32) ≤ v1 then (
      some ((-1 : Int32), M)
    ) else
    (gI O M v0 8 3).bind fun x1 =>
    (isO O M v0 8).bind fun _ =>
    xcl (f_Reader_signAt O f v0 x1 M) fun x2 M1 =>
    (isO O M1 1000000064 0).bind fun _ =>
    xcl (f_String_charAt O f 1000000064 ((2 : Int32) * v1) M1) fun x3 M2 =>
    if x2 = x3 then (
      (gI O M2 v0 8 3).bind fun x4 =>
      (isO O M2 v0 8).bind fun _ =>
      xcl (f_Reader_signAt O f v0 (x4 + (1 : Int32)) M2) fun x5 M3 =>
      (isO O M3 1000000064 0).bind fun _ =>
      xcl (f_String_charAt O f 1000000064 (((2 : Int32) * v1) + (1 : Int32)) M3) fun x6 M4 =>
      if x5 = x6 then (
        some (v1, M4)
      ) else
      f_Reader_dayName_24 O f n v0 (v1 + (1 : Int32)) M4
    ) else
    f_Reader_dayName_24 O f n v0 (v1 + (1 : Int32)) M2
set_option maxRecDepth 20000 in
theorem k_f_Reader_dayName_24 (O : Nat → Option va_E) (f d : Nat) : ∀ (n : Nat) (v0 : Nat) (v1 : Int32) (M : xM), xZ oI O (d + 4) 73 24 [(0, .ref v0), (1, .int v1)] [] M (f_Reader_dayName_24 O f n v0 v1 M) := by
  intro n
  induction n with
  | zero =>
    intro v0 v1 M
    exact xZ.no
  | succ n ih =>
    intro v0 v1 M
    unfold f_Reader_dayName_24
    refine xZ.adv (me := xm73) hP_73 2 (pc' := 27) (lv' := [(0, .ref v0), (1, .int v1)]) (st' := [.int (7 : Int32), .int v1]) rfl ?_
    refine xZ.ic_ge (me := xm73) hP_73 rfl (fun h1 => ?_) (fun h1 => ?_)
    · skip
      refine xZ.adv (me := xm73) hP_73 1 (pc' := 81) (lv' := [(0, .ref v0), (1, .int v1)]) (st' := [.int (-1 : Int32)]) rfl ?_
      exact xZ.reti (me := xm73) hP_73 rfl rfl
    · skip
      refine xZ.adv (me := xm73) hP_73 2 (pc' := 32) (lv' := [(0, .ref v0), (1, .int v1)]) (st' := [.ref v0, .ref v0]) rfl ?_
      refine xZ.k_gI (me := xm73) hP_73 rfl (fun x1 => ?_)
      refine xZ.callv (κ := oI) (av := [.int x1]) (rest := []) (st' := fun x2 => [.int x2]) (k0 := v0) (me := xm73) hP_73 rfl (Or.inl rfl) ⟨rfl, by decide⟩ rfl rfl (Nat.le_of_ble_eq_true rfl) (by decide) hP_66 (Nat.le_of_ble_eq_true rfl) (fun _ => rfl) (k_f_Reader_signAt O f (d + 3) v0 x1 M) (fun x2 M1 => ?_)
      refine xZ.adv (me := xm73) hP_73 4 (pc' := 43) (lv' := [(0, .ref v0), (1, .int v1)]) (st' := [.int ((2 : Int32) * v1), .ref 1000000064, .int x2]) rfl ?_
      refine xZ.callv (κ := oI) (av := [.int ((2 : Int32) * v1)]) (rest := [.int x2]) (st' := fun x3 => [.int x3, .int x2]) (k0 := 1000000064) (me := xm73) hP_73 rfl (Or.inl rfl) ⟨rfl, by decide⟩ rfl rfl (Nat.le_of_ble_eq_true rfl) (by decide) hP_289 (Nat.le_of_ble_eq_true rfl) (fun _ => rfl) (k_f_String_charAt O f (d + 0) 1000000064 ((2 : Int32) * v1) M1) (fun x3 M2 => ?_)
      refine xZ.ic_ne (me := xm73) hP_73 rfl (fun h2 => ?_) (fun h2 => ?_)
      · skip
        refine xZ.adv (me := xm73) hP_73 2 (pc' := 51) (lv' := [(0, .ref v0), (1, .int v1)]) (st' := [.ref v0, .ref v0]) rfl ?_
        refine xZ.k_gI (me := xm73) hP_73 rfl (fun x4 => ?_)
        refine xZ.adv (me := xm73) hP_73 2 (pc' := 56) (lv' := [(0, .ref v0), (1, .int v1)]) (st' := [.int (x4 + (1 : Int32)), .ref v0]) rfl ?_
        refine xZ.callv (κ := oI) (av := [.int (x4 + (1 : Int32))]) (rest := []) (st' := fun x5 => [.int x5]) (k0 := v0) (me := xm73) hP_73 rfl (Or.inl rfl) ⟨rfl, by decide⟩ rfl rfl (Nat.le_of_ble_eq_true rfl) (by decide) hP_66 (Nat.le_of_ble_eq_true rfl) (fun _ => rfl) (k_f_Reader_signAt O f (d + 3) v0 (x4 + (1 : Int32)) M2) (fun x5 M3 => ?_)
        refine xZ.adv (me := xm73) hP_73 6 (pc' := 66) (lv' := [(0, .ref v0), (1, .int v1)]) (st' := [.int (((2 : Int32) * v1) + (1 : Int32)), .ref 1000000064, .int x5]) rfl ?_
        refine xZ.callv (κ := oI) (av := [.int (((2 : Int32) * v1) + (1 : Int32))]) (rest := [.int x5]) (st' := fun x6 => [.int x6, .int x5]) (k0 := 1000000064) (me := xm73) hP_73 rfl (Or.inl rfl) ⟨rfl, by decide⟩ rfl rfl (Nat.le_of_ble_eq_true rfl) (by decide) hP_289 (Nat.le_of_ble_eq_true rfl) (fun _ => rfl) (k_f_String_charAt O f (d + 0) 1000000064 (((2 : Int32) * v1) + (1 : Int32)) M3) (fun x6 M4 => ?_)
        refine xZ.ic_ne (me := xm73) hP_73 rfl (fun h3 => ?_) (fun h3 => ?_)
        · skip
          refine xZ.adv (me := xm73) hP_73 1 (pc' := 73) (lv' := [(0, .ref v0), (1, .int v1)]) (st' := [.int v1]) rfl ?_
          exact xZ.reti (me := xm73) hP_73 rfl rfl
        · skip
          refine xZ.adv (me := xm73) hP_73 2 (pc' := 24) (lv' := [(1, .int (v1 + (1 : Int32))), (0, .ref v0)]) (st' := []) rfl ?_
          exact xZ.sub (xsc (.tail _ (.head _)) (xsc (.head _) xsn)) (show ([1, 0] : List Nat).Nodup from by decide) (ih v0 (v1 + (1 : Int32)) M4)
      · skip
        refine xZ.adv (me := xm73) hP_73 2 (pc' := 24) (lv' := [(1, .int (v1 + (1 : Int32))), (0, .ref v0)]) (st' := []) rfl ?_
        exact xZ.sub (xsc (.tail _ (.head _)) (xsc (.head _) xsn)) (show ([1, 0] : List Nat).Nodup from by decide) (ih v0 (v1 + (1 : Int32)) M2)
def f_Reader_dayName (O : Nat → Option va_E) (f : Nat) (v0 : Nat) (M : xM) : Option (Int32 × xM) :=
  (gI O M v0 8 5).bind fun x1 =>
  if x1 = 0 then (
    (gI O M v0 8 4).bind fun x2 =>
    (gI O M v0 8 3).bind fun x3 =>
    if (x2 - x3) = (2 : Int32) then (
      f_Reader_dayName_24 O f f v0 (0 : Int32) M
    ) else
    some ((-1 : Int32), M)
  ) else
  some ((-1 : Int32), M)
set_option maxRecDepth 20000 in
theorem k_f_Reader_dayName (O : Nat → Option va_E) (f d : Nat) (v0 : Nat) (M : xM) : xZ oI O (d + 4) 73 0 [(0, .ref v0)] [] M (f_Reader_dayName O f v0 M) := by
  unfold f_Reader_dayName
  refine xZ.adv (me := xm73) hP_73 1 (pc' := 1) (lv' := [(0, .ref v0)]) (st' := [.ref v0]) rfl ?_
  refine xZ.k_gI (me := xm73) hP_73 rfl (fun x1 => ?_)
  refine xZ.if_ne (me := xm73) hP_73 rfl (fun h1 => ?_) (fun h1 => ?_)
  · skip
    refine xZ.adv (me := xm73) hP_73 1 (pc' := 8) (lv' := [(0, .ref v0)]) (st' := [.ref v0]) rfl ?_
    refine xZ.k_gI (me := xm73) hP_73 rfl (fun x2 => ?_)
    refine xZ.adv (me := xm73) hP_73 1 (pc' := 12) (lv' := [(0, .ref v0)]) (st' := [.ref v0, .int x2]) rfl ?_
    refine xZ.k_gI (me := xm73) hP_73 rfl (fun x3 => ?_)
    refine xZ.adv (me := xm73) hP_73 2 (pc' := 17) (lv' := [(0, .ref v0)]) (st' := [.int (2 : Int32), .int (x2 - x3)]) rfl ?_
    refine xZ.ic_eq (me := xm73) hP_73 rfl (fun h2 => ?_) (fun h2 => ?_)
    · skip
      refine xZ.adv (me := xm73) hP_73 2 (pc' := 24) (lv' := [(1, .int (0 : Int32)), (0, .ref v0)]) (st' := []) rfl ?_
      exact xZ.sub (xsc (.tail _ (.head _)) (xsc (.head _) xsn)) (show ([1, 0] : List Nat).Nodup from by decide) (k_f_Reader_dayName_24 O f d f v0 (0 : Int32) M)
    · skip
      refine xZ.adv (me := xm73) hP_73 1 (pc' := 21) (lv' := [(0, .ref v0)]) (st' := [.int (-1 : Int32)]) rfl ?_
      exact xZ.reti (me := xm73) hP_73 rfl rfl
  · skip
    refine xZ.adv (me := xm73) hP_73 1 (pc' := 21) (lv' := [(0, .ref v0)]) (st' := [.int (-1 : Int32)]) rfl ?_
    exact xZ.reti (me := xm73) hP_73 rfl rfl
def f_Reader_parseDays_48 (O : Nat → Option va_E) (f : Nat) (v0 : Nat) (M : xM) : Option (Int32 × xM) :=
  (gR O M v0 8 1).bind fun x1 =>
  (gI O M x1 9 3).bind fun x2 =>
  if x2 = 0 then (
    some ((0 : Int32), M)
  ) else
  some ((1 : Int32), M)
set_option maxRecDepth 20000 in
theorem k_f_Reader_parseDays_48 (O : Nat → Option va_E) (f d : Nat) (v0 : Nat) (M : xM) : xZ oI O (d + 5) 72 48 [(0, .ref v0)] [] M (f_Reader_parseDays_48 O f v0 M) := by
  unfold f_Reader_parseDays_48
  refine xZ.adv (me := xm72) hP_72 1 (pc' := 49) (lv' := [(0, .ref v0)]) (st' := [.ref v0]) rfl ?_
  refine xZ.k_gR (me := xm72) hP_72 rfl (fun x1 => ?_)
  refine xZ.k_gI (me := xm72) hP_72 rfl (fun x2 => ?_)
  refine xZ.if_eq (me := xm72) hP_72 rfl (fun h1 => ?_) (fun h1 => ?_)
  · skip
    refine xZ.adv (me := xm72) hP_72 1 (pc' := 63) (lv' := [(0, .ref v0)]) (st' := [.int (0 : Int32)]) rfl ?_
    exact xZ.rete (me := xm72) hP_72 rfl rfl rfl
  · skip
    refine xZ.adv (me := xm72) hP_72 2 (pc' := 63) (lv' := [(0, .ref v0)]) (st' := [.int (1 : Int32)]) rfl ?_
    exact xZ.rete (me := xm72) hP_72 rfl rfl rfl
def f_Reader_parseDays_7 (O : Nat → Option va_E) (f : Nat) : Nat → Nat → Int32 → Int32 → xM → Option (Int32 × xM)
  | 0, _, _, _, _ => none
  | n + 1, v0, v1, v2, M =>
    if (120 : Int32) ≤ v2 then (
      f_Reader_parseDays_48 O f v0 M
    ) else
    if v1 = (-1 : Int32) then (
      f_Reader_parseDays_48 O f v0 M
    ) else
    (gR O M v0 8 1).bind fun x1 =>
    (gI O M x1 9 3).bind fun x2 =>
    (pI M x1 9 3 (x2 ||| ((1 : Int32) <<< (v1 &&& 31)))).bind fun M1 =>
    (isO O M1 v0 8).bind fun _ =>
    xcl (f_Reader_goOn O f v0 M1) fun _ M2 =>
    (isO O M2 v0 8).bind fun _ =>
    xcl (f_Reader_dayName O f v0 M2) fun x4 M3 =>
    f_Reader_parseDays_7 O f n v0 x4 (v2 + (1 : Int32)) M3
set_option maxRecDepth 20000 in
theorem k_f_Reader_parseDays_7 (O : Nat → Option va_E) (f d : Nat) : ∀ (n : Nat) (v0 : Nat) (v1 : Int32) (v2 : Int32) (M : xM), xZ oI O (d + 5) 72 7 [(0, .ref v0), (1, .int v1), (2, .int v2)] [] M (f_Reader_parseDays_7 O f n v0 v1 v2 M) := by
  intro n
  induction n with
  | zero =>
    intro v0 v1 v2 M
    exact xZ.no
  | succ n ih =>
    intro v0 v1 v2 M
    unfold f_Reader_parseDays_7
    refine xZ.adv (me := xm72) hP_72 2 (pc' := 10) (lv' := [(0, .ref v0), (1, .int v1), (2, .int v2)]) (st' := [.int (120 : Int32), .int v2]) rfl ?_
    refine xZ.ic_ge (me := xm72) hP_72 rfl (fun h1 => ?_) (fun h1 => ?_)
    · skip
      exact xZ.sub (xsc (.head _) xsn) (show ([0, 1, 2] : List Nat).Nodup from by decide) (k_f_Reader_parseDays_48 O f d v0 M)
    · skip
      refine xZ.adv (me := xm72) hP_72 2 (pc' := 15) (lv' := [(0, .ref v0), (1, .int v1), (2, .int v2)]) (st' := [.int (-1 : Int32), .int v1]) rfl ?_
      refine xZ.ic_eq (me := xm72) hP_72 rfl (fun h2 => ?_) (fun h2 => ?_)
      · skip
        exact xZ.sub (xsc (.head _) xsn) (show ([0, 1, 2] : List Nat).Nodup from by decide) (k_f_Reader_parseDays_48 O f d v0 M)
      · skip
        refine xZ.adv (me := xm72) hP_72 1 (pc' := 19) (lv' := [(0, .ref v0), (1, .int v1), (2, .int v2)]) (st' := [.ref v0]) rfl ?_
        refine xZ.k_gR (me := xm72) hP_72 rfl (fun x1 => ?_)
        refine xZ.adv (me := xm72) hP_72 1 (pc' := 23) (lv' := [(0, .ref v0), (1, .int v1), (2, .int v2)]) (st' := [.ref x1, .ref x1]) rfl ?_
        refine xZ.k_gI (me := xm72) hP_72 rfl (fun x2 => ?_)
        refine xZ.adv (me := xm72) hP_72 4 (pc' := 30) (lv' := [(0, .ref v0), (1, .int v1), (2, .int v2)]) (st' := [.int (x2 ||| ((1 : Int32) <<< (v1 &&& 31))), .ref x1]) rfl ?_
        refine xZ.k_pI (me := xm72) hP_72 rfl (fun M1 => ?_)
        refine xZ.adv (me := xm72) hP_72 1 (pc' := 34) (lv' := [(0, .ref v0), (1, .int v1), (2, .int v2)]) (st' := [.ref v0]) rfl ?_
        refine xZ.callv (κ := oU) (av := []) (rest := []) (st' := fun _ => []) (k0 := v0) (me := xm72) hP_72 rfl (Or.inl rfl) ⟨rfl, by decide⟩ rfl rfl (Nat.le_of_ble_eq_true rfl) (by decide) hP_65 (Nat.le_of_ble_eq_true rfl) (fun _ => rfl) (k_f_Reader_goOn O f (d + 3) v0 M1) (fun _ M2 => ?_)
        refine xZ.adv (me := xm72) hP_72 1 (pc' := 38) (lv' := [(0, .ref v0), (1, .int v1), (2, .int v2)]) (st' := [.ref v0]) rfl ?_
        refine xZ.callv (κ := oI) (av := []) (rest := []) (st' := fun x4 => [.int x4]) (k0 := v0) (me := xm72) hP_72 rfl (Or.inl rfl) ⟨rfl, by decide⟩ rfl rfl (Nat.le_of_ble_eq_true rfl) (by decide) hP_73 (Nat.le_of_ble_eq_true rfl) (fun _ => rfl) (k_f_Reader_dayName O f (d + 0) v0 M2) (fun x4 M3 => ?_)
        refine xZ.adv (me := xm72) hP_72 3 (pc' := 7) (lv' := [(2, .int (v2 + (1 : Int32))), (1, .int x4), (0, .ref v0)]) (st' := []) rfl ?_
        exact xZ.sub (xsc (.tail _ (.tail _ (.head _))) (xsc (.tail _ (.head _)) (xsc (.head _) xsn))) (show ([2, 1, 0] : List Nat).Nodup from by decide) (ih v0 x4 (v2 + (1 : Int32)) M3)
def f_Reader_parseDays (O : Nat → Option va_E) (f : Nat) (v0 : Nat) (M : xM) : Option (Int32 × xM) :=
  (isO O M v0 8).bind fun _ =>
  xcl (f_Reader_dayName O f v0 M) fun x1 M1 =>
  f_Reader_parseDays_7 O f f v0 x1 (0 : Int32) M1
set_option maxRecDepth 20000 in
theorem k_f_Reader_parseDays (O : Nat → Option va_E) (f d : Nat) (v0 : Nat) (M : xM) : xZ oI O (d + 5) 72 0 [(0, .ref v0)] [] M (f_Reader_parseDays O f v0 M) := by
  unfold f_Reader_parseDays
  refine xZ.adv (me := xm72) hP_72 1 (pc' := 1) (lv' := [(0, .ref v0)]) (st' := [.ref v0]) rfl ?_
  refine xZ.callv (κ := oI) (av := []) (rest := []) (st' := fun x1 => [.int x1]) (k0 := v0) (me := xm72) hP_72 rfl (Or.inl rfl) ⟨rfl, by decide⟩ rfl rfl (Nat.le_of_ble_eq_true rfl) (by decide) hP_73 (Nat.le_of_ble_eq_true rfl) (fun _ => rfl) (k_f_Reader_dayName O f (d + 0) v0 M) (fun x1 M1 => ?_)
  refine xZ.adv (me := xm72) hP_72 3 (pc' := 7) (lv' := [(2, .int (0 : Int32)), (1, .int x1), (0, .ref v0)]) (st' := []) rfl ?_
  exact xZ.sub (xsc (.tail _ (.tail _ (.head _))) (xsc (.tail _ (.head _)) (xsc (.head _) xsn))) (show ([2, 1, 0] : List Nat).Nodup from by decide) (k_f_Reader_parseDays_7 O f d f v0 x1 (0 : Int32) M1)
def f_Reader_ordinal (O : Nat → Option va_E) (f : Nat) (v0 : Int32) (M : xM) : Option (Nat × xM) :=
  if v0 = (1 : Int32) then (
    some (1000000024, M)
  ) else
  if v0 = (2 : Int32) then (
    some (1000000026, M)
  ) else
  if v0 = (3 : Int32) then (
    some (1000000028, M)
  ) else
  if v0 = (4 : Int32) then (
    some (1000000030, M)
  ) else
  some (1000000032, M)
set_option maxRecDepth 20000 in
theorem k_f_Reader_ordinal (O : Nat → Option va_E) (f d : Nat) (v0 : Int32) (M : xM) : xZ oR O (d + 0) 75 0 [(0, .int v0)] [] M (f_Reader_ordinal O f v0 M) := by
  unfold f_Reader_ordinal
  refine xZ.adv (me := xm75) hP_75 1 (pc' := 1) (lv' := [(0, .int v0)]) (st' := [.int v0]) rfl ?_
  refine xZ.cs (fun h1 => ?_) (fun h1 => ?_)
  · refine xZ.one (pc' := 32) (lv' := [(0, .int v0)]) (st' := []) (me := xm75) hP_75 rfl (by rw [h1]; rfl) ?_
    refine xZ.adv (me := xm75) hP_75 1 (pc' := 34) (lv' := [(0, .int v0)]) (st' := [.ref 1000000024]) rfl ?_
    exact xZ.retr (me := xm75) hP_75 rfl rfl rfl
  refine xZ.cs (fun h2 => ?_) (fun h2 => ?_)
  · refine xZ.one (pc' := 35) (lv' := [(0, .int v0)]) (st' := []) (me := xm75) hP_75 rfl (by rw [h2]; rfl) ?_
    refine xZ.adv (me := xm75) hP_75 1 (pc' := 37) (lv' := [(0, .int v0)]) (st' := [.ref 1000000026]) rfl ?_
    exact xZ.retr (me := xm75) hP_75 rfl rfl rfl
  refine xZ.cs (fun h3 => ?_) (fun h3 => ?_)
  · refine xZ.one (pc' := 38) (lv' := [(0, .int v0)]) (st' := []) (me := xm75) hP_75 rfl (by rw [h3]; rfl) ?_
    refine xZ.adv (me := xm75) hP_75 1 (pc' := 40) (lv' := [(0, .int v0)]) (st' := [.ref 1000000028]) rfl ?_
    exact xZ.retr (me := xm75) hP_75 rfl rfl rfl
  refine xZ.cs (fun h4 => ?_) (fun h4 => ?_)
  · refine xZ.one (pc' := 41) (lv' := [(0, .int v0)]) (st' := []) (me := xm75) hP_75 rfl (by rw [h4]; rfl) ?_
    refine xZ.adv (me := xm75) hP_75 1 (pc' := 43) (lv' := [(0, .int v0)]) (st' := [.ref 1000000030]) rfl ?_
    exact xZ.retr (me := xm75) hP_75 rfl rfl rfl
  refine xZ.tsw (pc' := 44) (me := xm75) hP_75 rfl (xsw_out v0 (by decide) [(1 : Int32), (2 : Int32), (3 : Int32), (4 : Int32)] (by decide) ⟨h1, h2, h3, h4, trivial⟩) rfl rfl ?_
  refine xZ.adv (me := xm75) hP_75 1 (pc' := 46) (lv' := [(0, .int v0)]) (st' := [.ref 1000000032]) rfl ?_
  exact xZ.retr (me := xm75) hP_75 rfl rfl rfl
def f_Reader_parseWhich_104 (O : Nat → Option va_E) (f : Nat) (v0 : Nat) (M : xM) : Option (Int32 × xM) :=
  (gR O M v0 8 1).bind fun x1 =>
  (gI O M x1 9 4).bind fun x2 =>
  if x2 = 0 then (
    some ((0 : Int32), M)
  ) else
  (gR O M v0 8 1).bind fun x3 =>
  (pI M x3 9 1 (4 : Int32)).bind fun M1 =>
  (isO O M1 v0 8).bind fun _ =>
  xcl (f_Reader_parseDays O f v0 M1) fun x4 M2 =>
  if xfit .boolean (.int x4) = true then some (x4, M2) else none
set_option maxRecDepth 20000 in
theorem k_f_Reader_parseWhich_104 (O : Nat → Option va_E) (f d : Nat) (v0 : Nat) (M : xM) : xZ oI O (d + 6) 74 104 [(0, .ref v0)] [] M (f_Reader_parseWhich_104 O f v0 M) := by
  unfold f_Reader_parseWhich_104
  refine xZ.adv (me := xm74) hP_74 1 (pc' := 105) (lv' := [(0, .ref v0)]) (st' := [.ref v0]) rfl ?_
  refine xZ.k_gR (me := xm74) hP_74 rfl (fun x1 => ?_)
  refine xZ.k_gI (me := xm74) hP_74 rfl (fun x2 => ?_)
  refine xZ.if_ne (me := xm74) hP_74 rfl (fun h1 => ?_) (fun h1 => ?_)
  · skip
    refine xZ.adv (me := xm74) hP_74 1 (pc' := 115) (lv' := [(0, .ref v0)]) (st' := [.int (0 : Int32)]) rfl ?_
    exact xZ.rete (me := xm74) hP_74 rfl rfl rfl
  · skip
    refine xZ.adv (me := xm74) hP_74 1 (pc' := 117) (lv' := [(0, .ref v0)]) (st' := [.ref v0]) rfl ?_
    refine xZ.k_gR (me := xm74) hP_74 rfl (fun x3 => ?_)
    refine xZ.adv (me := xm74) hP_74 1 (pc' := 121) (lv' := [(0, .ref v0)]) (st' := [.int (4 : Int32), .ref x3]) rfl ?_
    refine xZ.k_pI (me := xm74) hP_74 rfl (fun M1 => ?_)
    refine xZ.adv (me := xm74) hP_74 1 (pc' := 125) (lv' := [(0, .ref v0)]) (st' := [.ref v0]) rfl ?_
    refine xZ.callv (κ := oI) (av := []) (rest := []) (st' := fun x4 => [.int x4]) (k0 := v0) (me := xm74) hP_74 rfl (Or.inl rfl) ⟨rfl, by decide⟩ rfl rfl (Nat.le_of_ble_eq_true rfl) (by decide) hP_72 (Nat.le_of_ble_eq_true rfl) (fun _ => rfl) (k_f_Reader_parseDays O f (d + 0) v0 M1) (fun x4 M2 => ?_)
    exact xZ.retf (me := xm74) hP_74 rfl rfl
def f_Reader_parseWhich_64 (O : Nat → Option va_E) (f : Nat) : Nat → Nat → Int32 → xM → Option (Int32 × xM)
  | 0, _, _, _ => none
  | n + 1, v0, v1, M =>
    if (5 : Int32) < v1 then (
      f_Reader_parseWhich_104 O f v0 M
    ) else
    (gR O M v0 8 1).bind fun x1 =>
    (gI O M x1 9 4).bind fun x2 =>
    if x2 = 0 then (
      xcl (f_Reader_ordinal O f v1 M) fun x3 M1 =>
      (isO O M1 v0 8).bind fun _ =>
      xcl (f_Reader_takes O f v0 x3 M1) fun x4 M2 =>
      if x4 = 0 then (
        f_Reader_parseWhich_64 O f n v0 (v1 + (1 : Int32)) M2
      ) else
      (gR O M2 v0 8 1).bind fun x5 =>
      (pI M2 x5 9 4 v1).bind fun M3 =>
      f_Reader_parseWhich_64 O f n v0 (v1 + (1 : Int32)) M3
    ) else
    f_Reader_parseWhich_104 O f v0 M
set_option maxRecDepth 20000 in
theorem k_f_Reader_parseWhich_64 (O : Nat → Option va_E) (f d : Nat) : ∀ (n : Nat) (v0 : Nat) (v1 : Int32) (M : xM), xZ oI O (d + 6) 74 64 [(0, .ref v0), (1, .int v1)] [] M (f_Reader_parseWhich_64 O f n v0 v1 M) := by
  intro n
  induction n with
  | zero =>
    intro v0 v1 M
    exact xZ.no
  | succ n ih =>
    intro v0 v1 M
    unfold f_Reader_parseWhich_64
    refine xZ.adv (me := xm74) hP_74 2 (pc' := 66) (lv' := [(0, .ref v0), (1, .int v1)]) (st' := [.int (5 : Int32), .int v1]) rfl ?_
    refine xZ.ic_gt (me := xm74) hP_74 rfl (fun h1 => ?_) (fun h1 => ?_)
    · skip
      exact xZ.sub (xsc (.head _) xsn) (show ([0, 1] : List Nat).Nodup from by decide) (k_f_Reader_parseWhich_104 O f d v0 M)
    · skip
      refine xZ.adv (me := xm74) hP_74 1 (pc' := 70) (lv' := [(0, .ref v0), (1, .int v1)]) (st' := [.ref v0]) rfl ?_
      refine xZ.k_gR (me := xm74) hP_74 rfl (fun x1 => ?_)
      refine xZ.k_gI (me := xm74) hP_74 rfl (fun x2 => ?_)
      refine xZ.if_ne (me := xm74) hP_74 rfl (fun h2 => ?_) (fun h2 => ?_)
      · skip
        refine xZ.adv (me := xm74) hP_74 2 (pc' := 81) (lv' := [(0, .ref v0), (1, .int v1)]) (st' := [.int v1, .ref v0]) rfl ?_
        refine xZ.calls (κ := oR) (av := [.int v1]) (rest := [.ref v0]) (st' := fun x3 => [.ref x3, .ref v0]) (me := xm74) hP_74 rfl rfl rfl (Nat.le_of_ble_eq_true rfl) (by decide) hP_75 (Nat.le_of_ble_eq_true rfl) (fun _ => rfl) (k_f_Reader_ordinal O f (d + 5) v1 M) (fun x3 M1 => ?_)
        refine xZ.callv (κ := oI) (av := [.ref x3]) (rest := []) (st' := fun x4 => [.int x4]) (k0 := v0) (me := xm74) hP_74 rfl (Or.inl rfl) ⟨rfl, by decide⟩ rfl rfl (Nat.le_of_ble_eq_true rfl) (by decide) hP_68 (Nat.le_of_ble_eq_true rfl) (fun _ => rfl) (k_f_Reader_takes O f (d + 0) v0 x3 M1) (fun x4 M2 => ?_)
        refine xZ.if_eq (me := xm74) hP_74 rfl (fun h3 => ?_) (fun h3 => ?_)
        · skip
          refine xZ.adv (me := xm74) hP_74 2 (pc' := 64) (lv' := [(1, .int (v1 + (1 : Int32))), (0, .ref v0)]) (st' := []) rfl ?_
          exact xZ.sub (xsc (.tail _ (.head _)) (xsc (.head _) xsn)) (show ([1, 0] : List Nat).Nodup from by decide) (ih v0 (v1 + (1 : Int32)) M2)
        · skip
          refine xZ.adv (me := xm74) hP_74 1 (pc' := 91) (lv' := [(0, .ref v0), (1, .int v1)]) (st' := [.ref v0]) rfl ?_
          refine xZ.k_gR (me := xm74) hP_74 rfl (fun x5 => ?_)
          refine xZ.adv (me := xm74) hP_74 1 (pc' := 95) (lv' := [(0, .ref v0), (1, .int v1)]) (st' := [.int v1, .ref x5]) rfl ?_
          refine xZ.k_pI (me := xm74) hP_74 rfl (fun M3 => ?_)
          refine xZ.adv (me := xm74) hP_74 2 (pc' := 64) (lv' := [(1, .int (v1 + (1 : Int32))), (0, .ref v0)]) (st' := []) rfl ?_
          exact xZ.sub (xsc (.tail _ (.head _)) (xsc (.head _) xsn)) (show ([1, 0] : List Nat).Nodup from by decide) (ih v0 (v1 + (1 : Int32)) M3)
      · skip
        exact xZ.sub (xsc (.head _) xsn) (show ([0, 1] : List Nat).Nodup from by decide) (k_f_Reader_parseWhich_104 O f d v0 M)
def f_Reader_parseWhich_62 (O : Nat → Option va_E) (f : Nat) (v0 : Nat) (M : xM) : Option (Int32 × xM) :=
  f_Reader_parseWhich_64 O f f v0 (1 : Int32) M
set_option maxRecDepth 20000 in
theorem k_f_Reader_parseWhich_62 (O : Nat → Option va_E) (f d : Nat) (v0 : Nat) (M : xM) : xZ oI O (d + 6) 74 62 [(0, .ref v0)] [] M (f_Reader_parseWhich_62 O f v0 M) := by
  unfold f_Reader_parseWhich_62
  refine xZ.adv (me := xm74) hP_74 2 (pc' := 64) (lv' := [(1, .int (1 : Int32)), (0, .ref v0)]) (st' := []) rfl ?_
  exact xZ.sub (xsc (.tail _ (.head _)) (xsc (.head _) xsn)) (show ([1, 0] : List Nat).Nodup from by decide) (k_f_Reader_parseWhich_64 O f d f v0 (1 : Int32) M)
def f_Reader_parseWhich (O : Nat → Option va_E) (f : Nat) (v0 : Nat) (M : xM) : Option (Int32 × xM) :=
  (gR O M v0 8 1).bind fun x1 =>
  (pI M x1 9 1 (3 : Int32)).bind fun M1 =>
  (isO O M1 v0 8).bind fun _ =>
  xcl (f_Reader_isNumber O f v0 (1 : Int32) (31 : Int32) M1) fun x2 M2 =>
  if x2 = 0 then (
    (isO O M2 v0 8).bind fun _ =>
    xcl (f_Reader_takes O f v0 1000000050 M2) fun x3 M3 =>
    if x3 = 0 then (
      f_Reader_parseWhich_62 O f v0 M3
    ) else
    (gR O M3 v0 8 1).bind fun x4 =>
    (pI M3 x4 9 4 (-1 : Int32)).bind fun M4 =>
    (isO O M4 v0 8).bind fun _ =>
    xcl (f_Reader_dayName O f v0 M4) fun x5 M5 =>
    if x5 = (-1 : Int32) then (
      some ((1 : Int32), M5)
    ) else
    f_Reader_parseWhich_62 O f v0 M5
  ) else
  (gR O M2 v0 8 1).bind fun x6 =>
  (gI O M2 v0 8 6).bind fun x7 =>
  (pI M2 x6 9 4 x7).bind fun M6 =>
  (isO O M6 v0 8).bind fun _ =>
  xcl (f_Reader_goOn O f v0 M6) fun _ M7 =>
  some ((1 : Int32), M7)
set_option maxRecDepth 20000 in
theorem k_f_Reader_parseWhich (O : Nat → Option va_E) (f d : Nat) (v0 : Nat) (M : xM) : xZ oI O (d + 6) 74 0 [(0, .ref v0)] [] M (f_Reader_parseWhich O f v0 M) := by
  unfold f_Reader_parseWhich
  refine xZ.adv (me := xm74) hP_74 1 (pc' := 1) (lv' := [(0, .ref v0)]) (st' := [.ref v0]) rfl ?_
  refine xZ.k_gR (me := xm74) hP_74 rfl (fun x1 => ?_)
  refine xZ.adv (me := xm74) hP_74 1 (pc' := 5) (lv' := [(0, .ref v0)]) (st' := [.int (3 : Int32), .ref x1]) rfl ?_
  refine xZ.k_pI (me := xm74) hP_74 rfl (fun M1 => ?_)
  refine xZ.adv (me := xm74) hP_74 3 (pc' := 12) (lv' := [(0, .ref v0)]) (st' := [.int (31 : Int32), .int (1 : Int32), .ref v0]) rfl ?_
  refine xZ.callv (κ := oI) (av := [.int (1 : Int32), .int (31 : Int32)]) (rest := []) (st' := fun x2 => [.int x2]) (k0 := v0) (me := xm74) hP_74 rfl (Or.inl rfl) ⟨rfl, by decide⟩ rfl rfl (Nat.le_of_ble_eq_true rfl) (by decide) hP_70 (Nat.le_of_ble_eq_true rfl) (fun _ => rfl) (k_f_Reader_isNumber O f (d + 5) v0 (1 : Int32) (31 : Int32) M1) (fun x2 M2 => ?_)
  refine xZ.if_eq (me := xm74) hP_74 rfl (fun h1 => ?_) (fun h1 => ?_)
  · skip
    refine xZ.adv (me := xm74) hP_74 2 (pc' := 38) (lv' := [(0, .ref v0)]) (st' := [.ref 1000000050, .ref v0]) rfl ?_
    refine xZ.callv (κ := oI) (av := [.ref 1000000050]) (rest := []) (st' := fun x3 => [.int x3]) (k0 := v0) (me := xm74) hP_74 rfl (Or.inl rfl) ⟨rfl, by decide⟩ rfl rfl (Nat.le_of_ble_eq_true rfl) (by decide) hP_68 (Nat.le_of_ble_eq_true rfl) (fun _ => rfl) (k_f_Reader_takes O f (d + 0) v0 1000000050 M2) (fun x3 M3 => ?_)
    refine xZ.if_eq (me := xm74) hP_74 rfl (fun h2 => ?_) (fun h2 => ?_)
    · skip
      exact (k_f_Reader_parseWhich_62 O f d v0 M3)
    · skip
      refine xZ.adv (me := xm74) hP_74 1 (pc' := 45) (lv' := [(0, .ref v0)]) (st' := [.ref v0]) rfl ?_
      refine xZ.k_gR (me := xm74) hP_74 rfl (fun x4 => ?_)
      refine xZ.adv (me := xm74) hP_74 1 (pc' := 49) (lv' := [(0, .ref v0)]) (st' := [.int (-1 : Int32), .ref x4]) rfl ?_
      refine xZ.k_pI (me := xm74) hP_74 rfl (fun M4 => ?_)
      refine xZ.adv (me := xm74) hP_74 1 (pc' := 53) (lv' := [(0, .ref v0)]) (st' := [.ref v0]) rfl ?_
      refine xZ.callv (κ := oI) (av := []) (rest := []) (st' := fun x5 => [.int x5]) (k0 := v0) (me := xm74) hP_74 rfl (Or.inl rfl) ⟨rfl, by decide⟩ rfl rfl (Nat.le_of_ble_eq_true rfl) (by decide) hP_73 (Nat.le_of_ble_eq_true rfl) (fun _ => rfl) (k_f_Reader_dayName O f (d + 1) v0 M4) (fun x5 M5 => ?_)
      refine xZ.adv (me := xm74) hP_74 1 (pc' := 57) (lv' := [(0, .ref v0)]) (st' := [.int (-1 : Int32), .int x5]) rfl ?_
      refine xZ.ic_ne (me := xm74) hP_74 rfl (fun h3 => ?_) (fun h3 => ?_)
      · skip
        refine xZ.adv (me := xm74) hP_74 1 (pc' := 61) (lv' := [(0, .ref v0)]) (st' := [.int (1 : Int32)]) rfl ?_
        exact xZ.rete (me := xm74) hP_74 rfl rfl rfl
      · skip
        exact (k_f_Reader_parseWhich_62 O f d v0 M5)
  · skip
    refine xZ.adv (me := xm74) hP_74 1 (pc' := 19) (lv' := [(0, .ref v0)]) (st' := [.ref v0]) rfl ?_
    refine xZ.k_gR (me := xm74) hP_74 rfl (fun x6 => ?_)
    refine xZ.adv (me := xm74) hP_74 1 (pc' := 23) (lv' := [(0, .ref v0)]) (st' := [.ref v0, .ref x6]) rfl ?_
    refine xZ.k_gI (me := xm74) hP_74 rfl (fun x7 => ?_)
    refine xZ.k_pI (me := xm74) hP_74 rfl (fun M6 => ?_)
    refine xZ.adv (me := xm74) hP_74 1 (pc' := 30) (lv' := [(0, .ref v0)]) (st' := [.ref v0]) rfl ?_
    refine xZ.callv (κ := oU) (av := []) (rest := []) (st' := fun _ => []) (k0 := v0) (me := xm74) hP_74 rfl (Or.inl rfl) ⟨rfl, by decide⟩ rfl rfl (Nat.le_of_ble_eq_true rfl) (by decide) hP_65 (Nat.le_of_ble_eq_true rfl) (fun _ => rfl) (k_f_Reader_goOn O f (d + 4) v0 M6) (fun _ M7 => ?_)
    refine xZ.adv (me := xm74) hP_74 1 (pc' := 34) (lv' := [(0, .ref v0)]) (st' := [.int (1 : Int32)]) rfl ?_
    exact xZ.rete (me := xm74) hP_74 rfl rfl rfl
def f_Reader_parseUnit (O : Nat → Option va_E) (f : Nat) (v0 : Nat) (M : xM) : Option (Int32 × xM) :=
  (isO O M v0 8).bind fun _ =>
  xcl (f_Reader_takes O f v0 1000000042 M) fun x1 M1 =>
  if x1 = 0 then (
    (isO O M1 v0 8).bind fun _ =>
    xcl (f_Reader_takes O f v0 1000000046 M1) fun x2 M2 =>
    if x2 = 0 then (
      (isO O M2 v0 8).bind fun _ =>
      xcl (f_Reader_takes O f v0 1000000060 M2) fun x3 M3 =>
      if x3 = 0 then (
        (isO O M3 v0 8).bind fun _ =>
        xcl (f_Reader_takes O f v0 1000000066 M3) fun x4 M4 =>
        if x4 = 0 then (
          some ((0 : Int32), M4)
        ) else
        (isO O M4 v0 8).bind fun _ =>
        xcl (f_Reader_takes O f v0 1000000062 M4) fun x5 M5 =>
        if x5 = 0 then (
          some ((0 : Int32), M5)
        ) else
        (isO O M5 v0 8).bind fun _ =>
        xcl (f_Reader_parseWhich O f v0 M5) fun x6 M6 =>
        if x6 = 0 then (
          some ((0 : Int32), M6)
        ) else
        some ((1 : Int32), M6)
      ) else
      (gR O M3 v0 8 1).bind fun x7 =>
      (pI M3 x7 9 1 (2 : Int32)).bind fun M7 =>
      (isO O M7 v0 8).bind fun _ =>
      xcl (f_Reader_takes O f v0 1000000062 M7) fun x8 M8 =>
      if x8 = 0 then (
        some ((0 : Int32), M8)
      ) else
      (isO O M8 v0 8).bind fun _ =>
      xcl (f_Reader_parseDays O f v0 M8) fun x9 M9 =>
      if x9 = 0 then (
        some ((0 : Int32), M9)
      ) else
      some ((1 : Int32), M9)
    ) else
    (gR O M2 v0 8 1).bind fun x10 =>
    (pI M2 x10 9 1 (5 : Int32)).bind fun M10 =>
    some ((1 : Int32), M10)
  ) else
  (gR O M1 v0 8 1).bind fun x11 =>
  (pI M1 x11 9 1 (1 : Int32)).bind fun M11 =>
  some ((1 : Int32), M11)
set_option maxRecDepth 20000 in
theorem k_f_Reader_parseUnit (O : Nat → Option va_E) (f d : Nat) (v0 : Nat) (M : xM) : xZ oI O (d + 7) 71 0 [(0, .ref v0)] [] M (f_Reader_parseUnit O f v0 M) := by
  unfold f_Reader_parseUnit
  refine xZ.adv (me := xm71) hP_71 2 (pc' := 3) (lv' := [(0, .ref v0)]) (st' := [.ref 1000000042, .ref v0]) rfl ?_
  refine xZ.callv (κ := oI) (av := [.ref 1000000042]) (rest := []) (st' := fun x1 => [.int x1]) (k0 := v0) (me := xm71) hP_71 rfl (Or.inl rfl) ⟨rfl, by decide⟩ rfl rfl (Nat.le_of_ble_eq_true rfl) (by decide) hP_68 (Nat.le_of_ble_eq_true rfl) (fun _ => rfl) (k_f_Reader_takes O f (d + 1) v0 1000000042 M) (fun x1 M1 => ?_)
  refine xZ.if_eq (me := xm71) hP_71 rfl (fun h1 => ?_) (fun h1 => ?_)
  · skip
    refine xZ.adv (me := xm71) hP_71 2 (pc' := 22) (lv' := [(0, .ref v0)]) (st' := [.ref 1000000046, .ref v0]) rfl ?_
    refine xZ.callv (κ := oI) (av := [.ref 1000000046]) (rest := []) (st' := fun x2 => [.int x2]) (k0 := v0) (me := xm71) hP_71 rfl (Or.inl rfl) ⟨rfl, by decide⟩ rfl rfl (Nat.le_of_ble_eq_true rfl) (by decide) hP_68 (Nat.le_of_ble_eq_true rfl) (fun _ => rfl) (k_f_Reader_takes O f (d + 1) v0 1000000046 M1) (fun x2 M2 => ?_)
    refine xZ.if_eq (me := xm71) hP_71 rfl (fun h2 => ?_) (fun h2 => ?_)
    · skip
      refine xZ.adv (me := xm71) hP_71 2 (pc' := 41) (lv' := [(0, .ref v0)]) (st' := [.ref 1000000060, .ref v0]) rfl ?_
      refine xZ.callv (κ := oI) (av := [.ref 1000000060]) (rest := []) (st' := fun x3 => [.int x3]) (k0 := v0) (me := xm71) hP_71 rfl (Or.inl rfl) ⟨rfl, by decide⟩ rfl rfl (Nat.le_of_ble_eq_true rfl) (by decide) hP_68 (Nat.le_of_ble_eq_true rfl) (fun _ => rfl) (k_f_Reader_takes O f (d + 1) v0 1000000060 M2) (fun x3 M3 => ?_)
      refine xZ.if_eq (me := xm71) hP_71 rfl (fun h3 => ?_) (fun h3 => ?_)
      · skip
        refine xZ.adv (me := xm71) hP_71 2 (pc' := 80) (lv' := [(0, .ref v0)]) (st' := [.ref 1000000066, .ref v0]) rfl ?_
        refine xZ.callv (κ := oI) (av := [.ref 1000000066]) (rest := []) (st' := fun x4 => [.int x4]) (k0 := v0) (me := xm71) hP_71 rfl (Or.inl rfl) ⟨rfl, by decide⟩ rfl rfl (Nat.le_of_ble_eq_true rfl) (by decide) hP_68 (Nat.le_of_ble_eq_true rfl) (fun _ => rfl) (k_f_Reader_takes O f (d + 1) v0 1000000066 M3) (fun x4 M4 => ?_)
        refine xZ.if_eq (me := xm71) hP_71 rfl (fun h4 => ?_) (fun h4 => ?_)
        · skip
          refine xZ.adv (me := xm71) hP_71 1 (pc' := 107) (lv' := [(0, .ref v0)]) (st' := [.int (0 : Int32)]) rfl ?_
          exact xZ.rete (me := xm71) hP_71 rfl rfl rfl
        · skip
          refine xZ.adv (me := xm71) hP_71 2 (pc' := 89) (lv' := [(0, .ref v0)]) (st' := [.ref 1000000062, .ref v0]) rfl ?_
          refine xZ.callv (κ := oI) (av := [.ref 1000000062]) (rest := []) (st' := fun x5 => [.int x5]) (k0 := v0) (me := xm71) hP_71 rfl (Or.inl rfl) ⟨rfl, by decide⟩ rfl rfl (Nat.le_of_ble_eq_true rfl) (by decide) hP_68 (Nat.le_of_ble_eq_true rfl) (fun _ => rfl) (k_f_Reader_takes O f (d + 1) v0 1000000062 M4) (fun x5 M5 => ?_)
          refine xZ.if_eq (me := xm71) hP_71 rfl (fun h5 => ?_) (fun h5 => ?_)
          · skip
            refine xZ.adv (me := xm71) hP_71 1 (pc' := 107) (lv' := [(0, .ref v0)]) (st' := [.int (0 : Int32)]) rfl ?_
            exact xZ.rete (me := xm71) hP_71 rfl rfl rfl
          · skip
            refine xZ.adv (me := xm71) hP_71 1 (pc' := 96) (lv' := [(0, .ref v0)]) (st' := [.ref v0]) rfl ?_
            refine xZ.callv (κ := oI) (av := []) (rest := []) (st' := fun x6 => [.int x6]) (k0 := v0) (me := xm71) hP_71 rfl (Or.inl rfl) ⟨rfl, by decide⟩ rfl rfl (Nat.le_of_ble_eq_true rfl) (by decide) hP_74 (Nat.le_of_ble_eq_true rfl) (fun _ => rfl) (k_f_Reader_parseWhich O f (d + 0) v0 M5) (fun x6 M6 => ?_)
            refine xZ.if_eq (me := xm71) hP_71 rfl (fun h6 => ?_) (fun h6 => ?_)
            · skip
              refine xZ.adv (me := xm71) hP_71 1 (pc' := 107) (lv' := [(0, .ref v0)]) (st' := [.int (0 : Int32)]) rfl ?_
              exact xZ.rete (me := xm71) hP_71 rfl rfl rfl
            · skip
              refine xZ.adv (me := xm71) hP_71 2 (pc' := 107) (lv' := [(0, .ref v0)]) (st' := [.int (1 : Int32)]) rfl ?_
              exact xZ.rete (me := xm71) hP_71 rfl rfl rfl
      · skip
        refine xZ.adv (me := xm71) hP_71 1 (pc' := 48) (lv' := [(0, .ref v0)]) (st' := [.ref v0]) rfl ?_
        refine xZ.k_gR (me := xm71) hP_71 rfl (fun x7 => ?_)
        refine xZ.adv (me := xm71) hP_71 1 (pc' := 52) (lv' := [(0, .ref v0)]) (st' := [.int (2 : Int32), .ref x7]) rfl ?_
        refine xZ.k_pI (me := xm71) hP_71 rfl (fun M7 => ?_)
        refine xZ.adv (me := xm71) hP_71 2 (pc' := 58) (lv' := [(0, .ref v0)]) (st' := [.ref 1000000062, .ref v0]) rfl ?_
        refine xZ.callv (κ := oI) (av := [.ref 1000000062]) (rest := []) (st' := fun x8 => [.int x8]) (k0 := v0) (me := xm71) hP_71 rfl (Or.inl rfl) ⟨rfl, by decide⟩ rfl rfl (Nat.le_of_ble_eq_true rfl) (by decide) hP_68 (Nat.le_of_ble_eq_true rfl) (fun _ => rfl) (k_f_Reader_takes O f (d + 1) v0 1000000062 M7) (fun x8 M8 => ?_)
        refine xZ.if_eq (me := xm71) hP_71 rfl (fun h7 => ?_) (fun h7 => ?_)
        · skip
          refine xZ.adv (me := xm71) hP_71 1 (pc' := 76) (lv' := [(0, .ref v0)]) (st' := [.int (0 : Int32)]) rfl ?_
          exact xZ.rete (me := xm71) hP_71 rfl rfl rfl
        · skip
          refine xZ.adv (me := xm71) hP_71 1 (pc' := 65) (lv' := [(0, .ref v0)]) (st' := [.ref v0]) rfl ?_
          refine xZ.callv (κ := oI) (av := []) (rest := []) (st' := fun x9 => [.int x9]) (k0 := v0) (me := xm71) hP_71 rfl (Or.inl rfl) ⟨rfl, by decide⟩ rfl rfl (Nat.le_of_ble_eq_true rfl) (by decide) hP_72 (Nat.le_of_ble_eq_true rfl) (fun _ => rfl) (k_f_Reader_parseDays O f (d + 1) v0 M8) (fun x9 M9 => ?_)
          refine xZ.if_eq (me := xm71) hP_71 rfl (fun h8 => ?_) (fun h8 => ?_)
          · skip
            refine xZ.adv (me := xm71) hP_71 1 (pc' := 76) (lv' := [(0, .ref v0)]) (st' := [.int (0 : Int32)]) rfl ?_
            exact xZ.rete (me := xm71) hP_71 rfl rfl rfl
          · skip
            refine xZ.adv (me := xm71) hP_71 2 (pc' := 76) (lv' := [(0, .ref v0)]) (st' := [.int (1 : Int32)]) rfl ?_
            exact xZ.rete (me := xm71) hP_71 rfl rfl rfl
    · skip
      refine xZ.adv (me := xm71) hP_71 1 (pc' := 29) (lv' := [(0, .ref v0)]) (st' := [.ref v0]) rfl ?_
      refine xZ.k_gR (me := xm71) hP_71 rfl (fun x10 => ?_)
      refine xZ.adv (me := xm71) hP_71 1 (pc' := 33) (lv' := [(0, .ref v0)]) (st' := [.int (5 : Int32), .ref x10]) rfl ?_
      refine xZ.k_pI (me := xm71) hP_71 rfl (fun M10 => ?_)
      refine xZ.adv (me := xm71) hP_71 1 (pc' := 37) (lv' := [(0, .ref v0)]) (st' := [.int (1 : Int32)]) rfl ?_
      exact xZ.rete (me := xm71) hP_71 rfl rfl rfl
  · skip
    refine xZ.adv (me := xm71) hP_71 1 (pc' := 10) (lv' := [(0, .ref v0)]) (st' := [.ref v0]) rfl ?_
    refine xZ.k_gR (me := xm71) hP_71 rfl (fun x11 => ?_)
    refine xZ.adv (me := xm71) hP_71 1 (pc' := 14) (lv' := [(0, .ref v0)]) (st' := [.int (1 : Int32), .ref x11]) rfl ?_
    refine xZ.k_pI (me := xm71) hP_71 rfl (fun M11 => ?_)
    refine xZ.adv (me := xm71) hP_71 1 (pc' := 18) (lv' := [(0, .ref v0)]) (st' := [.int (1 : Int32)]) rfl ?_
    exact xZ.rete (me := xm71) hP_71 rfl rfl rfl
def f_Reader_parseKind_65 (O : Nat → Option va_E) (f : Nat) (v0 : Nat) (M : xM) : Option (Int32 × xM) :=
  (isO O M v0 8).bind fun _ =>
  xcl (f_Reader_parseUnit O f v0 M) fun x1 M1 =>
  if xfit .boolean (.int x1) = true then some (x1, M1) else none
set_option maxRecDepth 20000 in
theorem k_f_Reader_parseKind_65 (O : Nat → Option va_E) (f d : Nat) (v0 : Nat) (M : xM) : xZ oI O (d + 8) 67 65 [(0, .ref v0)] [] M (f_Reader_parseKind_65 O f v0 M) := by
  unfold f_Reader_parseKind_65
  refine xZ.adv (me := xm67) hP_67 1 (pc' := 66) (lv' := [(0, .ref v0)]) (st' := [.ref v0]) rfl ?_
  refine xZ.callv (κ := oI) (av := []) (rest := []) (st' := fun x1 => [.int x1]) (k0 := v0) (me := xm67) hP_67 rfl (Or.inl rfl) ⟨rfl, by decide⟩ rfl rfl (Nat.le_of_ble_eq_true rfl) (by decide) hP_71 (Nat.le_of_ble_eq_true rfl) (fun _ => rfl) (k_f_Reader_parseUnit O f (d + 0) v0 M) (fun x1 M1 => ?_)
  exact xZ.retf (me := xm67) hP_67 rfl rfl
def f_Reader_parseKind (O : Nat → Option va_E) (f : Nat) (v0 : Nat) (M : xM) : Option (Int32 × xM) :=
  (isO O M v0 8).bind fun _ =>
  xcl (f_Reader_takes O f v0 1000000040 M) fun x1 M1 =>
  if x1 = 0 then (
    (isO O M1 v0 8).bind fun _ =>
    xcl (f_Reader_takes O f v0 1000000058 M1) fun x2 M2 =>
    if x2 = 0 then (
      some ((0 : Int32), M2)
    ) else
    (gR O M2 v0 8 1).bind fun x3 =>
    (pI M2 x3 9 2 (1 : Int32)).bind fun M3 =>
    (gI O M3 v0 8 5).bind fun x4 =>
    if x4 = (1 : Int32) then (
      (isO O M3 v0 8).bind fun _ =>
      xcl (f_Reader_isNumber O f v0 (1 : Int32) (99 : Int32) M3) fun x5 M4 =>
      if x5 = 0 then (
        some ((0 : Int32), M4)
      ) else
      (gR O M4 v0 8 1).bind fun x6 =>
      (gI O M4 v0 8 6).bind fun x7 =>
      (pI M4 x6 9 2 x7).bind fun M5 =>
      (isO O M5 v0 8).bind fun _ =>
      xcl (f_Reader_goOn O f v0 M5) fun _ M6 =>
      f_Reader_parseKind_65 O f v0 M6
    ) else
    f_Reader_parseKind_65 O f v0 M3
  ) else
  some ((1 : Int32), M1)
set_option maxRecDepth 20000 in
theorem k_f_Reader_parseKind (O : Nat → Option va_E) (f d : Nat) (v0 : Nat) (M : xM) : xZ oI O (d + 8) 67 0 [(0, .ref v0)] [] M (f_Reader_parseKind O f v0 M) := by
  unfold f_Reader_parseKind
  refine xZ.adv (me := xm67) hP_67 2 (pc' := 3) (lv' := [(0, .ref v0)]) (st' := [.ref 1000000040, .ref v0]) rfl ?_
  refine xZ.callv (κ := oI) (av := [.ref 1000000040]) (rest := []) (st' := fun x1 => [.int x1]) (k0 := v0) (me := xm67) hP_67 rfl (Or.inl rfl) ⟨rfl, by decide⟩ rfl rfl (Nat.le_of_ble_eq_true rfl) (by decide) hP_68 (Nat.le_of_ble_eq_true rfl) (fun _ => rfl) (k_f_Reader_takes O f (d + 2) v0 1000000040 M) (fun x1 M1 => ?_)
  refine xZ.if_eq (me := xm67) hP_67 rfl (fun h1 => ?_) (fun h1 => ?_)
  · skip
    refine xZ.adv (me := xm67) hP_67 2 (pc' := 14) (lv' := [(0, .ref v0)]) (st' := [.ref 1000000058, .ref v0]) rfl ?_
    refine xZ.callv (κ := oI) (av := [.ref 1000000058]) (rest := []) (st' := fun x2 => [.int x2]) (k0 := v0) (me := xm67) hP_67 rfl (Or.inl rfl) ⟨rfl, by decide⟩ rfl rfl (Nat.le_of_ble_eq_true rfl) (by decide) hP_68 (Nat.le_of_ble_eq_true rfl) (fun _ => rfl) (k_f_Reader_takes O f (d + 2) v0 1000000058 M1) (fun x2 M2 => ?_)
    refine xZ.if_ne (me := xm67) hP_67 rfl (fun h2 => ?_) (fun h2 => ?_)
    · skip
      refine xZ.adv (me := xm67) hP_67 1 (pc' := 21) (lv' := [(0, .ref v0)]) (st' := [.int (0 : Int32)]) rfl ?_
      exact xZ.rete (me := xm67) hP_67 rfl rfl rfl
    · skip
      refine xZ.adv (me := xm67) hP_67 1 (pc' := 23) (lv' := [(0, .ref v0)]) (st' := [.ref v0]) rfl ?_
      refine xZ.k_gR (me := xm67) hP_67 rfl (fun x3 => ?_)
      refine xZ.adv (me := xm67) hP_67 1 (pc' := 27) (lv' := [(0, .ref v0)]) (st' := [.int (1 : Int32), .ref x3]) rfl ?_
      refine xZ.k_pI (me := xm67) hP_67 rfl (fun M3 => ?_)
      refine xZ.adv (me := xm67) hP_67 1 (pc' := 31) (lv' := [(0, .ref v0)]) (st' := [.ref v0]) rfl ?_
      refine xZ.k_gI (me := xm67) hP_67 rfl (fun x4 => ?_)
      refine xZ.adv (me := xm67) hP_67 1 (pc' := 35) (lv' := [(0, .ref v0)]) (st' := [.int (1 : Int32), .int x4]) rfl ?_
      refine xZ.ic_ne (me := xm67) hP_67 rfl (fun h3 => ?_) (fun h3 => ?_)
      · skip
        refine xZ.adv (me := xm67) hP_67 3 (pc' := 42) (lv' := [(0, .ref v0)]) (st' := [.int (99 : Int32), .int (1 : Int32), .ref v0]) rfl ?_
        refine xZ.callv (κ := oI) (av := [.int (1 : Int32), .int (99 : Int32)]) (rest := []) (st' := fun x5 => [.int x5]) (k0 := v0) (me := xm67) hP_67 rfl (Or.inl rfl) ⟨rfl, by decide⟩ rfl rfl (Nat.le_of_ble_eq_true rfl) (by decide) hP_70 (Nat.le_of_ble_eq_true rfl) (fun _ => rfl) (k_f_Reader_isNumber O f (d + 7) v0 (1 : Int32) (99 : Int32) M3) (fun x5 M4 => ?_)
        refine xZ.if_ne (me := xm67) hP_67 rfl (fun h4 => ?_) (fun h4 => ?_)
        · skip
          refine xZ.adv (me := xm67) hP_67 1 (pc' := 49) (lv' := [(0, .ref v0)]) (st' := [.int (0 : Int32)]) rfl ?_
          exact xZ.rete (me := xm67) hP_67 rfl rfl rfl
        · skip
          refine xZ.adv (me := xm67) hP_67 1 (pc' := 51) (lv' := [(0, .ref v0)]) (st' := [.ref v0]) rfl ?_
          refine xZ.k_gR (me := xm67) hP_67 rfl (fun x6 => ?_)
          refine xZ.adv (me := xm67) hP_67 1 (pc' := 55) (lv' := [(0, .ref v0)]) (st' := [.ref v0, .ref x6]) rfl ?_
          refine xZ.k_gI (me := xm67) hP_67 rfl (fun x7 => ?_)
          refine xZ.k_pI (me := xm67) hP_67 rfl (fun M5 => ?_)
          refine xZ.adv (me := xm67) hP_67 1 (pc' := 62) (lv' := [(0, .ref v0)]) (st' := [.ref v0]) rfl ?_
          refine xZ.callv (κ := oU) (av := []) (rest := []) (st' := fun _ => []) (k0 := v0) (me := xm67) hP_67 rfl (Or.inl rfl) ⟨rfl, by decide⟩ rfl rfl (Nat.le_of_ble_eq_true rfl) (by decide) hP_65 (Nat.le_of_ble_eq_true rfl) (fun _ => rfl) (k_f_Reader_goOn O f (d + 6) v0 M5) (fun _ M6 => ?_)
          exact (k_f_Reader_parseKind_65 O f d v0 M6)
      · skip
        exact (k_f_Reader_parseKind_65 O f d v0 M3)
  · skip
    refine xZ.adv (me := xm67) hP_67 1 (pc' := 10) (lv' := [(0, .ref v0)]) (st' := [.int (1 : Int32)]) rfl ?_
    exact xZ.rete (me := xm67) hP_67 rfl rfl rfl
def f_Reader_parseEndNumber (O : Nat → Option va_E) (f : Nat) (v0 : Nat) (v1 : Int32) (v2 : Int32) (v3 : Int32) (M : xM) : Option (Int32 × xM) :=
  (isO O M v0 8).bind fun _ =>
  xcl (f_Reader_isNumber O f v0 v2 v3 M) fun x1 M1 =>
  if x1 = 0 then (
    some ((0 : Int32), M1)
  ) else
  (gR O M1 v0 8 1).bind fun x2 =>
  (gI O M1 v0 8 6).bind fun x3 =>
  (isO O M1 x2 9).bind fun _ =>
  xcl (f_Rule_putEnd O f x2 v1 x3 M1) fun _ M2 =>
  (isO O M2 v0 8).bind fun _ =>
  xcl (f_Reader_goOn O f v0 M2) fun _ M3 =>
  some ((1 : Int32), M3)
set_option maxRecDepth 20000 in
theorem k_f_Reader_parseEndNumber (O : Nat → Option va_E) (f d : Nat) (v0 : Nat) (v1 : Int32) (v2 : Int32) (v3 : Int32) (M : xM) : xZ oI O (d + 2) 77 0 [(0, .ref v0), (1, .int v1), (2, .int v2), (3, .int v3)] [] M (f_Reader_parseEndNumber O f v0 v1 v2 v3 M) := by
  unfold f_Reader_parseEndNumber
  refine xZ.adv (me := xm77) hP_77 3 (pc' := 3) (lv' := [(0, .ref v0), (1, .int v1), (2, .int v2), (3, .int v3)]) (st' := [.int v3, .int v2, .ref v0]) rfl ?_
  refine xZ.callv (κ := oI) (av := [.int v2, .int v3]) (rest := []) (st' := fun x1 => [.int x1]) (k0 := v0) (me := xm77) hP_77 rfl (Or.inl rfl) ⟨rfl, by decide⟩ rfl rfl (Nat.le_of_ble_eq_true rfl) (by decide) hP_70 (Nat.le_of_ble_eq_true rfl) (fun _ => rfl) (k_f_Reader_isNumber O f (d + 1) v0 v2 v3 M) (fun x1 M1 => ?_)
  refine xZ.if_ne (me := xm77) hP_77 rfl (fun h1 => ?_) (fun h1 => ?_)
  · skip
    refine xZ.adv (me := xm77) hP_77 1 (pc' := 10) (lv' := [(0, .ref v0), (1, .int v1), (2, .int v2), (3, .int v3)]) (st' := [.int (0 : Int32)]) rfl ?_
    exact xZ.rete (me := xm77) hP_77 rfl rfl rfl
  · skip
    refine xZ.adv (me := xm77) hP_77 1 (pc' := 12) (lv' := [(0, .ref v0), (1, .int v1), (2, .int v2), (3, .int v3)]) (st' := [.ref v0]) rfl ?_
    refine xZ.k_gR (me := xm77) hP_77 rfl (fun x2 => ?_)
    refine xZ.adv (me := xm77) hP_77 2 (pc' := 17) (lv' := [(0, .ref v0), (1, .int v1), (2, .int v2), (3, .int v3)]) (st' := [.ref v0, .int v1, .ref x2]) rfl ?_
    refine xZ.k_gI (me := xm77) hP_77 rfl (fun x3 => ?_)
    refine xZ.callv (κ := oU) (av := [.int v1, .int x3]) (rest := []) (st' := fun _ => []) (k0 := x2) (me := xm77) hP_77 rfl (Or.inl rfl) ⟨rfl, by decide⟩ rfl rfl (Nat.le_of_ble_eq_true rfl) (by decide) hP_33 (Nat.le_of_ble_eq_true rfl) (fun _ => rfl) (k_f_Rule_putEnd O f (d + 1) x2 v1 x3 M1) (fun _ M2 => ?_)
    refine xZ.adv (me := xm77) hP_77 1 (pc' := 24) (lv' := [(0, .ref v0), (1, .int v1), (2, .int v2), (3, .int v3)]) (st' := [.ref v0]) rfl ?_
    refine xZ.callv (κ := oU) (av := []) (rest := []) (st' := fun _ => []) (k0 := v0) (me := xm77) hP_77 rfl (Or.inl rfl) ⟨rfl, by decide⟩ rfl rfl (Nat.le_of_ble_eq_true rfl) (by decide) hP_65 (Nat.le_of_ble_eq_true rfl) (fun _ => rfl) (k_f_Reader_goOn O f (d + 0) v0 M2) (fun _ M3 => ?_)
    refine xZ.adv (me := xm77) hP_77 1 (pc' := 28) (lv' := [(0, .ref v0), (1, .int v1), (2, .int v2), (3, .int v3)]) (st' := [.int (1 : Int32)]) rfl ?_
    exact xZ.rete (me := xm77) hP_77 rfl rfl rfl
def f_Reader_parseEnd (O : Nat → Option va_E) (f : Nat) (v0 : Nat) (v1 : Int32) (M : xM) : Option (Int32 × xM) :=
  (gI O M v0 8 5).bind fun x1 =>
  if x1 = (3 : Int32) then (
    some ((1 : Int32), M)
  ) else
  (isO O M v0 8).bind fun _ =>
  xcl (f_Reader_takes O f v0 1000000068 M) fun x2 M1 =>
  if x2 = 0 then (
    (isO O M1 v0 8).bind fun _ =>
    xcl (f_Reader_takes O f v0 1000000070 M1) fun x3 M2 =>
    if x3 = 0 then (
      some ((0 : Int32), M2)
    ) else
    (isO O M2 v0 8).bind fun _ =>
    xcl (f_Reader_parseEndNumber O f v0 (2 : Int32) v1 (146000 : Int32) M2) fun x4 M3 =>
    if x4 = 0 then (
      some ((0 : Int32), M3)
    ) else
    some ((1 : Int32), M3)
  ) else
  (isO O M1 v0 8).bind fun _ =>
  xcl (f_Reader_parseEndNumber O f v0 (1 : Int32) (1 : Int32) (500 : Int32) M1) fun x5 M4 =>
  if xfit .boolean (.int x5) = true then some (x5, M4) else none
set_option maxRecDepth 20000 in
theorem k_f_Reader_parseEnd (O : Nat → Option va_E) (f d : Nat) (v0 : Nat) (v1 : Int32) (M : xM) : xZ oI O (d + 6) 76 0 [(0, .ref v0), (1, .int v1)] [] M (f_Reader_parseEnd O f v0 v1 M) := by
  unfold f_Reader_parseEnd
  refine xZ.adv (me := xm76) hP_76 1 (pc' := 1) (lv' := [(0, .ref v0), (1, .int v1)]) (st' := [.ref v0]) rfl ?_
  refine xZ.k_gI (me := xm76) hP_76 rfl (fun x1 => ?_)
  refine xZ.adv (me := xm76) hP_76 1 (pc' := 5) (lv' := [(0, .ref v0), (1, .int v1)]) (st' := [.int (3 : Int32), .int x1]) rfl ?_
  refine xZ.ic_ne (me := xm76) hP_76 rfl (fun h1 => ?_) (fun h1 => ?_)
  · skip
    refine xZ.adv (me := xm76) hP_76 1 (pc' := 9) (lv' := [(0, .ref v0), (1, .int v1)]) (st' := [.int (1 : Int32)]) rfl ?_
    exact xZ.rete (me := xm76) hP_76 rfl rfl rfl
  · skip
    refine xZ.adv (me := xm76) hP_76 2 (pc' := 13) (lv' := [(0, .ref v0), (1, .int v1)]) (st' := [.ref 1000000068, .ref v0]) rfl ?_
    refine xZ.callv (κ := oI) (av := [.ref 1000000068]) (rest := []) (st' := fun x2 => [.int x2]) (k0 := v0) (me := xm76) hP_76 rfl (Or.inl rfl) ⟨rfl, by decide⟩ rfl rfl (Nat.le_of_ble_eq_true rfl) (by decide) hP_68 (Nat.le_of_ble_eq_true rfl) (fun _ => rfl) (k_f_Reader_takes O f (d + 0) v0 1000000068 M) (fun x2 M1 => ?_)
    refine xZ.if_eq (me := xm76) hP_76 rfl (fun h2 => ?_) (fun h2 => ?_)
    · skip
      refine xZ.adv (me := xm76) hP_76 2 (pc' := 32) (lv' := [(0, .ref v0), (1, .int v1)]) (st' := [.ref 1000000070, .ref v0]) rfl ?_
      refine xZ.callv (κ := oI) (av := [.ref 1000000070]) (rest := []) (st' := fun x3 => [.int x3]) (k0 := v0) (me := xm76) hP_76 rfl (Or.inl rfl) ⟨rfl, by decide⟩ rfl rfl (Nat.le_of_ble_eq_true rfl) (by decide) hP_68 (Nat.le_of_ble_eq_true rfl) (fun _ => rfl) (k_f_Reader_takes O f (d + 0) v0 1000000070 M1) (fun x3 M2 => ?_)
      refine xZ.if_eq (me := xm76) hP_76 rfl (fun h3 => ?_) (fun h3 => ?_)
      · skip
        refine xZ.adv (me := xm76) hP_76 1 (pc' := 54) (lv' := [(0, .ref v0), (1, .int v1)]) (st' := [.int (0 : Int32)]) rfl ?_
        exact xZ.rete (me := xm76) hP_76 rfl rfl rfl
      · skip
        refine xZ.adv (me := xm76) hP_76 4 (pc' := 43) (lv' := [(0, .ref v0), (1, .int v1)]) (st' := [.int (146000 : Int32), .int v1, .int (2 : Int32), .ref v0]) rfl ?_
        refine xZ.callv (κ := oI) (av := [.int (2 : Int32), .int v1, .int (146000 : Int32)]) (rest := []) (st' := fun x4 => [.int x4]) (k0 := v0) (me := xm76) hP_76 rfl (Or.inl rfl) ⟨rfl, by decide⟩ rfl rfl (Nat.le_of_ble_eq_true rfl) (by decide) hP_77 (Nat.le_of_ble_eq_true rfl) (fun _ => rfl) (k_f_Reader_parseEndNumber O f (d + 3) v0 (2 : Int32) v1 (146000 : Int32) M2) (fun x4 M3 => ?_)
        refine xZ.if_eq (me := xm76) hP_76 rfl (fun h4 => ?_) (fun h4 => ?_)
        · skip
          refine xZ.adv (me := xm76) hP_76 1 (pc' := 54) (lv' := [(0, .ref v0), (1, .int v1)]) (st' := [.int (0 : Int32)]) rfl ?_
          exact xZ.rete (me := xm76) hP_76 rfl rfl rfl
        · skip
          refine xZ.adv (me := xm76) hP_76 2 (pc' := 54) (lv' := [(0, .ref v0), (1, .int v1)]) (st' := [.int (1 : Int32)]) rfl ?_
          exact xZ.rete (me := xm76) hP_76 rfl rfl rfl
    · skip
      refine xZ.adv (me := xm76) hP_76 4 (pc' := 25) (lv' := [(0, .ref v0), (1, .int v1)]) (st' := [.int (500 : Int32), .int (1 : Int32), .int (1 : Int32), .ref v0]) rfl ?_
      refine xZ.callv (κ := oI) (av := [.int (1 : Int32), .int (1 : Int32), .int (500 : Int32)]) (rest := []) (st' := fun x5 => [.int x5]) (k0 := v0) (me := xm76) hP_76 rfl (Or.inl rfl) ⟨rfl, by decide⟩ rfl rfl (Nat.le_of_ble_eq_true rfl) (by decide) hP_77 (Nat.le_of_ble_eq_true rfl) (fun _ => rfl) (k_f_Reader_parseEndNumber O f (d + 3) v0 (1 : Int32) (1 : Int32) (500 : Int32) M1) (fun x5 M4 => ?_)
      exact xZ.retf (me := xm76) hP_76 rfl rfl
def f_Reader_parse_56 (O : Nat → Option va_E) (f : Nat) (v0 : Nat) (M : xM) : Option (Int32 × xM) :=
  (gI O M v0 8 3).bind fun x1 =>
  some (x1, M)
set_option maxRecDepth 20000 in
theorem k_f_Reader_parse_56 (O : Nat → Option va_E) (f d : Nat) (v0 : Nat) (M : xM) : xZ oI O (d + 9) 64 56 [(0, .ref v0)] [] M (f_Reader_parse_56 O f v0 M) := by
  unfold f_Reader_parse_56
  refine xZ.adv (me := xm64) hP_64 1 (pc' := 57) (lv' := [(0, .ref v0)]) (st' := [.ref v0]) rfl ?_
  refine xZ.k_gI (me := xm64) hP_64 rfl (fun x1 => ?_)
  exact xZ.reti (me := xm64) hP_64 rfl rfl
def f_Reader_parse (O : Nat → Option va_E) (f : Nat) (v0 : Nat) (v1 : Int32) (M : xM) : Option (Int32 × xM) :=
  (pI M v0 8 4 (0 : Int32)).bind fun M1 =>
  (gR O M1 v0 8 1).bind fun x1 =>
  (isO O M1 x1 9).bind fun _ =>
  xcl (f_Rule_put O f x1 (0 : Int32) (0 : Int32) (0 : Int32) (0 : Int32) M1) fun _ M2 =>
  (gR O M2 v0 8 1).bind fun x3 =>
  (isO O M2 x3 9).bind fun _ =>
  xcl (f_Rule_putEnd O f x3 (0 : Int32) (0 : Int32) M2) fun _ M3 =>
  (isO O M3 v0 8).bind fun _ =>
  xcl (f_Reader_goOn O f v0 M3) fun _ M4 =>
  (isO O M4 v0 8).bind fun _ =>
  xcl (f_Reader_parseKind O f v0 M4) fun x6 M5 =>
  if x6 = 0 then (
    f_Reader_parse_56 O f v0 M5
  ) else
  (isO O M5 v0 8).bind fun _ =>
  xcl (f_Reader_parseEnd O f v0 v1 M5) fun x7 M6 =>
  if x7 = 0 then (
    f_Reader_parse_56 O f v0 M6
  ) else
  (gI O M6 v0 8 5).bind fun x8 =>
  if x8 = (3 : Int32) then (
    some ((-1 : Int32), M6)
  ) else
  f_Reader_parse_56 O f v0 M6
set_option maxRecDepth 20000 in
theorem k_f_Reader_parse (O : Nat → Option va_E) (f d : Nat) (v0 : Nat) (v1 : Int32) (M : xM) : xZ oI O (d + 9) 64 0 [(0, .ref v0), (1, .int v1)] [] M (f_Reader_parse O f v0 v1 M) := by
  unfold f_Reader_parse
  refine xZ.adv (me := xm64) hP_64 2 (pc' := 2) (lv' := [(0, .ref v0), (1, .int v1)]) (st' := [.int (0 : Int32), .ref v0]) rfl ?_
  refine xZ.k_pI (me := xm64) hP_64 rfl (fun M1 => ?_)
  refine xZ.adv (me := xm64) hP_64 1 (pc' := 6) (lv' := [(0, .ref v0), (1, .int v1)]) (st' := [.ref v0]) rfl ?_
  refine xZ.k_gR (me := xm64) hP_64 rfl (fun x1 => ?_)
  refine xZ.adv (me := xm64) hP_64 4 (pc' := 13) (lv' := [(0, .ref v0), (1, .int v1)]) (st' := [.int (0 : Int32), .int (0 : Int32), .int (0 : Int32), .int (0 : Int32), .ref x1]) rfl ?_
  refine xZ.callv (κ := oU) (av := [.int (0 : Int32), .int (0 : Int32), .int (0 : Int32), .int (0 : Int32)]) (rest := []) (st' := fun _ => []) (k0 := x1) (me := xm64) hP_64 rfl (Or.inl rfl) ⟨rfl, by decide⟩ rfl rfl (Nat.le_of_ble_eq_true rfl) (by decide) hP_32 (Nat.le_of_ble_eq_true rfl) (fun _ => rfl) (k_f_Rule_put O f (d + 8) x1 (0 : Int32) (0 : Int32) (0 : Int32) (0 : Int32) M1) (fun _ M2 => ?_)
  refine xZ.adv (me := xm64) hP_64 1 (pc' := 17) (lv' := [(0, .ref v0), (1, .int v1)]) (st' := [.ref v0]) rfl ?_
  refine xZ.k_gR (me := xm64) hP_64 rfl (fun x3 => ?_)
  refine xZ.adv (me := xm64) hP_64 2 (pc' := 22) (lv' := [(0, .ref v0), (1, .int v1)]) (st' := [.int (0 : Int32), .int (0 : Int32), .ref x3]) rfl ?_
  refine xZ.callv (κ := oU) (av := [.int (0 : Int32), .int (0 : Int32)]) (rest := []) (st' := fun _ => []) (k0 := x3) (me := xm64) hP_64 rfl (Or.inl rfl) ⟨rfl, by decide⟩ rfl rfl (Nat.le_of_ble_eq_true rfl) (by decide) hP_33 (Nat.le_of_ble_eq_true rfl) (fun _ => rfl) (k_f_Rule_putEnd O f (d + 8) x3 (0 : Int32) (0 : Int32) M2) (fun _ M3 => ?_)
  refine xZ.adv (me := xm64) hP_64 1 (pc' := 26) (lv' := [(0, .ref v0), (1, .int v1)]) (st' := [.ref v0]) rfl ?_
  refine xZ.callv (κ := oU) (av := []) (rest := []) (st' := fun _ => []) (k0 := v0) (me := xm64) hP_64 rfl (Or.inl rfl) ⟨rfl, by decide⟩ rfl rfl (Nat.le_of_ble_eq_true rfl) (by decide) hP_65 (Nat.le_of_ble_eq_true rfl) (fun _ => rfl) (k_f_Reader_goOn O f (d + 7) v0 M3) (fun _ M4 => ?_)
  refine xZ.adv (me := xm64) hP_64 1 (pc' := 30) (lv' := [(0, .ref v0), (1, .int v1)]) (st' := [.ref v0]) rfl ?_
  refine xZ.callv (κ := oI) (av := []) (rest := []) (st' := fun x6 => [.int x6]) (k0 := v0) (me := xm64) hP_64 rfl (Or.inl rfl) ⟨rfl, by decide⟩ rfl rfl (Nat.le_of_ble_eq_true rfl) (by decide) hP_67 (Nat.le_of_ble_eq_true rfl) (fun _ => rfl) (k_f_Reader_parseKind O f (d + 0) v0 M4) (fun x6 M5 => ?_)
  refine xZ.if_eq (me := xm64) hP_64 rfl (fun h1 => ?_) (fun h1 => ?_)
  · skip
    exact xZ.sub (xsc (.head _) xsn) (show ([0, 1] : List Nat).Nodup from by decide) (k_f_Reader_parse_56 O f d v0 M5)
  · skip
    refine xZ.adv (me := xm64) hP_64 2 (pc' := 38) (lv' := [(0, .ref v0), (1, .int v1)]) (st' := [.int v1, .ref v0]) rfl ?_
    refine xZ.callv (κ := oI) (av := [.int v1]) (rest := []) (st' := fun x7 => [.int x7]) (k0 := v0) (me := xm64) hP_64 rfl (Or.inl rfl) ⟨rfl, by decide⟩ rfl rfl (Nat.le_of_ble_eq_true rfl) (by decide) hP_76 (Nat.le_of_ble_eq_true rfl) (fun _ => rfl) (k_f_Reader_parseEnd O f (d + 2) v0 v1 M5) (fun x7 M6 => ?_)
    refine xZ.if_eq (me := xm64) hP_64 rfl (fun h2 => ?_) (fun h2 => ?_)
    · skip
      exact xZ.sub (xsc (.head _) xsn) (show ([0, 1] : List Nat).Nodup from by decide) (k_f_Reader_parse_56 O f d v0 M6)
    · skip
      refine xZ.adv (me := xm64) hP_64 1 (pc' := 45) (lv' := [(0, .ref v0), (1, .int v1)]) (st' := [.ref v0]) rfl ?_
      refine xZ.k_gI (me := xm64) hP_64 rfl (fun x8 => ?_)
      refine xZ.adv (me := xm64) hP_64 1 (pc' := 49) (lv' := [(0, .ref v0), (1, .int v1)]) (st' := [.int (3 : Int32), .int x8]) rfl ?_
      refine xZ.ic_ne (me := xm64) hP_64 rfl (fun h3 => ?_) (fun h3 => ?_)
      · skip
        refine xZ.adv (me := xm64) hP_64 2 (pc' := 60) (lv' := [(0, .ref v0), (1, .int v1)]) (st' := [.int (-1 : Int32)]) rfl ?_
        exact xZ.reti (me := xm64) hP_64 rfl rfl
      · skip
        exact xZ.sub (xsc (.head _) xsn) (show ([0, 1] : List Nat).Nodup from by decide) (k_f_Reader_parse_56 O f d v0 M6)
def f_Calendarhall_errorPlace (O : Nat → Option va_E) (f : Nat) (v0 : Nat) (M : xM) : Option (Int32 × xM) :=
  (gR O M v0 12 7).bind fun x1 =>
  (isO O M x1 8).bind fun _ =>
  xcl (f_Reader_parse O f x1 (10 : Int32) M) fun x2 M1 =>
  some (x2, M1)
set_option maxRecDepth 20000 in
theorem k_f_Calendarhall_errorPlace (O : Nat → Option va_E) (f d : Nat) (v0 : Nat) (M : xM) : xZ oI O (d + 10) 63 0 [(0, .ref v0)] [] M (f_Calendarhall_errorPlace O f v0 M) := by
  unfold f_Calendarhall_errorPlace
  refine xZ.adv (me := xm63) hP_63 1 (pc' := 1) (lv' := [(0, .ref v0)]) (st' := [.ref v0]) rfl ?_
  refine xZ.k_gR (me := xm63) hP_63 rfl (fun x1 => ?_)
  refine xZ.adv (me := xm63) hP_63 1 (pc' := 6) (lv' := [(0, .ref v0)]) (st' := [.int (10 : Int32), .ref x1]) rfl ?_
  refine xZ.callv (κ := oI) (av := [.int (10 : Int32)]) (rest := []) (st' := fun x2 => [.int x2]) (k0 := x1) (me := xm63) hP_63 rfl (Or.inl rfl) ⟨rfl, by decide⟩ rfl rfl (Nat.le_of_ble_eq_true rfl) (by decide) hP_64 (Nat.le_of_ble_eq_true rfl) (fun _ => rfl) (k_f_Reader_parse O f (d + 0) x1 (10 : Int32) M) (fun x2 M1 => ?_)
  exact xZ.reti (me := xm63) hP_63 rfl rfl
def f_Calendarhall_seriesNumbered (O : Nat → Option va_E) (f : Nat) (v0 : Nat) (v1 : Int32) (M : xM) : Option (Nat × xM) :=
  if v1 < 0 then (
    none
  ) else
  if (12 : Int32) ≤ v1 then (
    none
  ) else
  (gR O M v0 12 0).bind fun x1 =>
  (isO O M x1 4).bind fun _ =>
  xcl (f_Hall_anySeries O f x1 v1 M) fun x2 M1 =>
  (gI O M1 x2 10 0).bind fun x3 =>
  if x3 = 0 then (
    none
  ) else
  (gR O M1 v0 12 0).bind fun x4 =>
  (isO O M1 x4 4).bind fun _ =>
  xcl (f_Hall_anySeries O f x4 v1 M1) fun x5 M2 =>
  some (x5, M2)
set_option maxRecDepth 20000 in
theorem k_f_Calendarhall_seriesNumbered (O : Nat → Option va_E) (f d : Nat) (v0 : Nat) (v1 : Int32) (M : xM) : xZ oR O (d + 1) 79 0 [(0, .ref v0), (1, .int v1)] [] M (f_Calendarhall_seriesNumbered O f v0 v1 M) := by
  unfold f_Calendarhall_seriesNumbered
  refine xZ.adv (me := xm79) hP_79 1 (pc' := 1) (lv' := [(0, .ref v0), (1, .int v1)]) (st' := [.int v1]) rfl ?_
  refine xZ.if_lt (me := xm79) hP_79 rfl (fun h1 => ?_) (fun h1 => ?_)
  · skip
    exact xZ.no
  · skip
    refine xZ.adv (me := xm79) hP_79 2 (pc' := 7) (lv' := [(0, .ref v0), (1, .int v1)]) (st' := [.int (12 : Int32), .int v1]) rfl ?_
    refine xZ.ic_ge (me := xm79) hP_79 rfl (fun h2 => ?_) (fun h2 => ?_)
    · skip
      exact xZ.no
    · skip
      refine xZ.adv (me := xm79) hP_79 1 (pc' := 11) (lv' := [(0, .ref v0), (1, .int v1)]) (st' := [.ref v0]) rfl ?_
      refine xZ.k_gR (me := xm79) hP_79 rfl (fun x1 => ?_)
      refine xZ.adv (me := xm79) hP_79 1 (pc' := 15) (lv' := [(0, .ref v0), (1, .int v1)]) (st' := [.int v1, .ref x1]) rfl ?_
      refine xZ.callv (κ := oR) (av := [.int v1]) (rest := []) (st' := fun x2 => [.ref x2]) (k0 := x1) (me := xm79) hP_79 rfl (Or.inl rfl) ⟨rfl, by decide⟩ rfl rfl (Nat.le_of_ble_eq_true rfl) (by decide) hP_29 (Nat.le_of_ble_eq_true rfl) (fun _ => rfl) (k_f_Hall_anySeries O f (d + 0) x1 v1 M) (fun x2 M1 => ?_)
      refine xZ.k_gI (me := xm79) hP_79 rfl (fun x3 => ?_)
      refine xZ.if_ne (me := xm79) hP_79 rfl (fun h3 => ?_) (fun h3 => ?_)
      · skip
        exact xZ.no
      · skip
        refine xZ.adv (me := xm79) hP_79 1 (pc' := 33) (lv' := [(0, .ref v0), (1, .int v1)]) (st' := [.ref v0]) rfl ?_
        refine xZ.k_gR (me := xm79) hP_79 rfl (fun x4 => ?_)
        refine xZ.adv (me := xm79) hP_79 1 (pc' := 37) (lv' := [(0, .ref v0), (1, .int v1)]) (st' := [.int v1, .ref x4]) rfl ?_
        refine xZ.callv (κ := oR) (av := [.int v1]) (rest := []) (st' := fun x5 => [.ref x5]) (k0 := x4) (me := xm79) hP_79 rfl (Or.inl rfl) ⟨rfl, by decide⟩ rfl rfl (Nat.le_of_ble_eq_true rfl) (by decide) hP_29 (Nat.le_of_ble_eq_true rfl) (fun _ => rfl) (k_f_Hall_anySeries O f (d + 0) x4 v1 M1) (fun x5 M2 => ?_)
        exact xZ.retr (me := xm79) hP_79 rfl rfl rfl
